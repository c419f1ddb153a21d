/-! the drawn object -/
def DG (n N M : Nat) (V : OV) : Prop := GV n V ∧ V.nb ≤ 16 ∧ Ev2 V.σ ∧ nB V.σ = N ∧ nD V.σ = M
def DF (V : OV) : Prop := GV 20000 V ∧ V.nb ≤ 16 ∧ Ev2 V.σ ∧ 0 < nB V.σ
theorem DG.mono {n m N M : Nat} {V : OV} (h : DG n N M V) (hm : n ≤ m) : DG m N M V := ⟨h.1.mono hm, h.2⟩
theorem SR.dg {n N M : Nat} {V V2 : OV} {r2 : Value} {P : Prop} (h : SR n V P (fun τ => nB τ = nB V.σ ∧ nD τ = nD V.σ ∧ (Ev2 V.σ → Ev2 τ)) V2 r2) (hP : P) (hD : DG n N M V) : ∃ r : Int32, r2 = .int r ∧ ¬ r = -1 ∧ DG (n + 300) N M V2 := by
  obtain ⟨r, e, hG, hb, h⟩ := h
  rcases h with ⟨h1, -, -, -, q1, q2, q3⟩ | ⟨h1, e0, -, -, -, h2⟩
  · exact ⟨r, e, fun z => h1 (by rw [z]; decide), hG, by rw [hb]; exact hD.2.1, q3 hD.2.2.1, q1.trans hD.2.2.2.1, q2.trans hD.2.2.2.2⟩
  · exact ⟨r, e, h2 hP, hG, by rw [hb]; exact hD.2.1, by rw [e0]; exact hD.2.2.1, (congrArg nB e0).trans hD.2.2.2.1, (congrArg nD e0).trans hD.2.2.2.2⟩
theorem inI_n {k N : Nat} (h : k < N) (hN : N < 1000) : inI (nI k) (nI N) = true := by
  rw [inI_iff]
  exact ⟨ge0_nI (by omega), fun z => absurd ((nI_leI (by omega) (by omega)).mp z) (by omega)⟩
theorem bx_nI {k : Nat} (h : k < 1000) : bx (nI k) = k := nI_clamp (by omega)
section DRW
variable (l : Launch) (G : va_G) (cy : Nat → ClassId) (kS vS : Nat → Nat) (a : OA) (V : OV) (n k : Nat)
theorem e_add (hD : DG n k k V) (hk : k < 5) : LX l yL_addBath 11 220 1 G cy kS vS a V [.ref a.aX] (fun V2 r2 => r2 = .int (nI k) ∧ DG (n + 300) (k + 1) k V2 ∧ pB V2.σ k = 1 ∧ vB V2.σ k = 0) := by
  obtain ⟨hG, hb, hE, h1, h2⟩ := hD
  have h5 : nB V.σ < 5 := by rw [h1]; exact hk
  refine LX.mono (q_addBath l G cy kS vS a V hG.1.1 hG.2.1 hG.2.2.1 h5 (if_pos h5)) (Nat.le_refl _) (Nat.le_refl _) (Nat.le_refl _) (fun V2 r2 ⟨e1, e2⟩ => ?_)
  subst e1
  refine ⟨by rw [e2, h1], ⟨hG.push ((inv_plcS hG.1 h5).mono (by omega)), hb, ev_plcS hE h5, congrArg (fun z => z + 1) h1, h2⟩, ?_, ?_⟩
  · show upd (pB V.σ) (nB V.σ) 1 k = 1
    rw [h1, m_updS]
  · show vB V.σ k = 0
    exact (hG.1.2.2.1 k hk (by rw [h1]; exact Nat.le_refl k)).1
theorem e_tap (v q : Nat) (t : Int32) (hD : DG n (k + 1) k V) (hk : k < 5) (hn : n + 400 < 2147483648) (ht : tapB t = true) (h1q : 1 ≤ q) (hq : q ≤ 20) (hv : vB V.σ k = nI v) (h100 : v + q ≤ 100) : LX l yL_runTap 11 220 1 G cy kS vS a V [.ref a.aX, .int (nI k), .int t, .int (nI q)] (fun V2 r2 => r2 = .int (nI (v + q)) ∧ DG (n + 300) (k + 1) k V2 ∧ pB V2.σ k = pB V.σ k ∧ vB V2.σ k = nI (v + q)) := by
  obtain ⟨hG, hb, hE, h1, h2⟩ := hD
  have hN := hG.1.1.1
  have hj : k < nB V.σ := by rw [h1]; exact Nat.lt_succ_self k
  have hq2 : inR (nI q) 1 20 = true := inR_n (lo := 1) (hi := 20) h1q hq (by decide)
  have hs : vB V.σ k + nI q = nI (v + q) := by rw [hv, nI_add]
  have h7 : ¬ 100 < vB V.σ k + nI q := by
    rw [hs]
    exact fun z => absurd ((nI_ltI (a := 100) (b := v + q) (by omega) (by omega)).mp z) (by omega)
  have hF : filF (nB V.σ) (vB V.σ) (nI k) t (nI q) = 0 := by
    unfold filF
    rw [if_pos (inI_n hj (by omega)), if_pos ht, if_pos hq2, bx_nI (by omega), if_neg h7]
  have hI2 : Inv (n + 1) (filS k (nI q) (nI q * (10 + 30 * t)) V.σ) := inv_fil hG.1 (by omega) hj ht hq2 h7
  have hv2 : vB (filS k (nI q) (nI q * (10 + 30 * t)) V.σ) k = nI (v + q) := (show vB (filS k (nI q) (nI q * (10 + 30 * t)) V.σ) k = upd (vB V.σ) k (vB V.σ k + nI q) k from rfl).trans (m_updS.trans hs)
  refine LX.mono (q_runTap l G cy kS vS a V k t (nI q) hG.1.1 hG.2.1 hG.2.2.1 hj ht hF) (Nat.le_refl _) (Nat.le_refl _) (Nat.le_refl _) (fun V2 r2 ⟨e1, e2⟩ => ?_)
  subst e1
  refine ⟨by rw [e2, hv2], ⟨hG.push (hI2.mono (by omega)), hb, ev_filS hE hj hN ?_, h1, h2⟩, rfl, hv2⟩
  rw [nI_toInt (by omega)]
  omega
theorem e_plug (hD : DG n (k + 1) k V) (hk : k < 5) (hp : pB V.σ k = 1) : LX l yL_setPlug 11 220 1 G cy kS vS a V [.ref a.aX, .int (nI k), .int 0] (fun V2 r2 => r2 = .int 1 ∧ DG (n + 300) (k + 1) k V2) := by
  obtain ⟨hG, hb, hE, h1, h2⟩ := hD
  have hj : k < nB V.σ := by rw [h1]; exact Nat.lt_succ_self k
  refine LX.mono (q_setPlug l G cy kS vS a V k 0 hG.1.1 hG.2.1 hG.2.2.1 hj rfl (if_pos (inI_n hj (by have := hG.1.1.1; omega)))) (Nat.le_refl _) (Nat.le_refl _) (Nat.le_refl _) (fun V2 r2 ⟨e1, e2⟩ => ?_)
  subst e1
  exact ⟨by rw [e2, hp]; rfl, hG.push ((inv_pluS hG.1 rfl).mono (by omega)), hb, ev_pluS hE k 0, h1, h2⟩
theorem e_duck (lo hi : Nat) (hD : DG n (k + 1) k V) (hk : k < 5) (hlo : lo < 40) (hh1 : 40 ≤ hi) (hh2 : hi < 60) : LX l yL_addDuck 11 220 1 G cy kS vS a V [.ref a.aX, .int (nI k), .int (nI lo), .int (nI hi)] (fun V2 r2 => r2 = .int (nI k) ∧ DG (n + 300) (k + 1) (k + 1) V2) := by
  obtain ⟨hG, hb, hE, h1, h2⟩ := hD
  have hN := hG.1.1.1
  have hj : k < nB V.σ := by rw [h1]; exact Nat.lt_succ_self k
  have h6 : nD V.σ < 6 := by rw [h2]; omega
  have hi9 := inI_n hj (by omega)
  have hd : dOK (nI k) := ⟨by rw [bx_nI (by omega)], by rw [bx_nI (by omega)]; exact hk⟩
  have hlo9 : ¬ nI lo < 0 := ge0_nI (by omega)
  have hF : dukF (nB V.σ) (nD V.σ) (nI k) (nI lo) (nI hi) = 0 := by
    unfold dukF
    rw [if_pos hi9, if_neg hlo9, if_neg (show ¬ (99 : Int32) < nI hi from fun z => absurd ((nI_ltI (a := 99) (b := hi) (by omega) (by omega)).mp z) (by omega)), if_neg (show ¬ nI hi < nI lo from fun z => absurd ((nI_ltI (by omega) (by omega)).mp z) (by omega)), if_pos h6]
  refine LX.mono (q_addDuck l G cy kS vS a V (nI k) (nI lo) (nI hi) hG.1.1 hG.2.1 hG.2.2.1 h6 hd hF) (Nat.le_refl _) (Nat.le_refl _) (Nat.le_refl _) (fun V2 r2 ⟨e1, e2⟩ => ?_)
  subst e1
  exact ⟨by rw [e2, h2], hG.push ((inv_dukS hG.1 h6 hd).mono (by omega)), hb, ev_dukS hE hi9 hlo9, h1, congrArg (fun z => z + 1) h2⟩
end DRW
theorem hi_X7 : ∀ w ∈ wsX70, w ∈ wsL_law := big_row 53 rfl
/-- a new object -/
abbrev V00 : OV := OV.mk stNew (fun _ => stNew) 0 0 0 (fun _ => 0) 0 (fun _ => 0)
abbrev U00 : OU := OU.mk stNew stNew 0 (-1) (-1) 0 0 (0, false) (fun _ => 0) (fun _ => 0) (fun _ => 0) (fun _ => 0)
theorem V00_ok : DG 0 0 0 V00 := by
  have h : Inv 0 stNew := inv_st0
  exact ⟨⟨h, by decide, by decide, rfl, fun j _ => rfl, fun _ _ => h.1⟩, by decide, ⟨fun j hj => absurd hj (Nat.not_lt_zero j), fun j hj => absurd hj (Nat.not_lt_zero j)⟩, rfl, rfl⟩
set_option maxRecDepth 100000 in
set_option maxHeartbeats 4000000 in
theorem OW00 (cy : Nat → ClassId) (a : OA) : OW cy a V00 U00 = (((((([(a.aX, .inr (11, [.ref (a.na 0), .ref (a.tr 0), .ref (a.sn 0), .int 0, .ref a.hi, .ref a.sc, .int (-1), .int (-1), .ref a.ob]))] ++ sWd cy a.na stNew) ++ sWd cy a.tr stNew) ++ sWd cy a.sn stNew) ++ ([(a.hi, .inr (7, [.ref a.hA, .int 0, .int 0])), (a.hA, .inl (cy 4, 8, .inr (.inr (.inr (.inr (fun k => some (a.ra k 0)))))))] ++ ringW cy a.ra (fun _ => stNew))) ++ [(a.sc, .inr (8, [.ref a.tx, .int 0, .int 0, .int 0, .int 0, .ref a.kd, .ref a.fs, .ref a.sd, .ref a.td])), (a.tx, .inl (cy 1, 60, .inl (fun _ => 0))), (a.kd, .inl (cy 2, 13, .inl (fun _ => 0))), (a.fs, .inl (cy 2, 13, .inl (fun _ => 0))), (a.sd, .inl (cy 2, 13, .inl (fun _ => 0))), (a.td, .inl (cy 2, 13, .inl (fun _ => 0)))]) ++ [(a.ob, .inr (1, [.ref a.vb, .int 0, .int 0, .int 0])), (a.vb, .inl (cy 0, 16, .inl (fun _ => 0)))]) := by
  unfold OW
  rw [fl_eq]
  unfold OWc
  simp only [List.flatten_cons, List.flatten_nil, List.append_assoc, List.cons_append, List.nil_append, List.append_nil]
  rfl
set_option maxRecDepth 100000 in
set_option maxHeartbeats 12000000 in
theorem n_drawn (l : Launch) (G : va_G) (cy : Nat → ClassId) (kS vS : Nat → Nat) (b : Nat) (L : Nat) (xs : Nat → Int32) (hl9 : l.stackTraces = false) : GR l yL_drawn { frames := 14, cells := 260, slots := 64 * 260, locals := 450 } 260 (64 * 260) G (fun U => PQ G cy kS vS [] U ∧ XQ b L xs [] U) [.ref b] [] (fun z9 : OA × OV × OU => DF z9.2.1) (fun z9 : OA × OV × OU => OW cy z9.1 z9.2.1 z9.2.2) (fun z9 : OA × OV × OU => some (.ref z9.1.aX)) := by
  refine GR.ofB (cc := cL_drawn) (maxL := 8) (ret := (some (.object "BathLeague"))) (by decide) (big_at 0 3 rfl) (Nat.le_of_ble_eq_true rfl) ?_
  intro p e s m below meth cq S9 hr hlocks hnm hPQX hD hS hA ls hl
  obtain ⟨hPQ, hXQ⟩ := hPQX
  obtain ⟨hx, hb, hml, hown, hts⟩ := id S9
  have hLF := LF.mk hPQ
  have hK := hLF.1
  have hSK := hLF.2.2.2.1
  have hDZ := hLF.2.2.2.2.1
  have hP : va_P G vwCl (fl []) s.heap := hPQ.1.1
  have hD : va_D (va_A [] s.heap.size) (fl []) := hD
  obtain ⟨hX, hbl, hbw, hL⟩ := hXQ
  have hbA : ¬ va_A [] s.heap.size b := fun z => z.elim hbw (fun z => absurd hbl (Nat.not_lt.mpr z))
  have hc : 0 + 260 ≤ 260 := Nat.le_of_ble_eq_true rfl
  have hs : 0 + 64 * 260 ≤ 64 * 260 := Nat.le_of_ble_eq_true rfl
  have hl : lv_has ls 8 [(0, .ref b)] := hl
  refine va_new (ci := 11) (fs := [.null, .null, .null, .int 0, .null, .null, .int 0, .int 0, .null]) (C := RX7) (T := TX7) (N := 9) hx hb hts hi_X7 tyX7 tyX7_ok hown (hts _ (big_at 0 4 rfl)) (hts _ (big_at 0 5 rfl)) (hts _ (big_at 0 6 rfl)) hK.1 hP hD hS hA rfl (fun j hj => by rcases (show j = 0 ∨ j = 1 ∨ j = 2 ∨ j = 3 ∨ j = 4 ∨ j = 5 ∨ j = 6 ∨ j = 7 ∨ j = 8 by omega) with rfl | rfl | rfl | rfl | rfl | rfl | rfl | rfl | rfl <;> rfl) (show _ ≤ 260 by omega) (show _ ≤ 64 * 260 by omega) dL_drawn_0 (fun q H hP hD hS => ?_)
  refine lv_dup hx hb dL_drawn_3 rfl ?_
  have hFw := free_of hD hS hA
  refine lg_run (Wr := []) (va_runI S9 ((GR.ofNW (c_X7_init l G cy q) sub_X7_init) _) (bigI 0 hts (big_at 0 7 rfl) (big_at 0 6 rfl) (big_at 0 9 rfl) (big_at 0 8 rfl) rfl rfl rfl (by decide +kernel) ⟨Nat.le_of_ble_eq_true rfl, Nat.le_of_ble_eq_true rfl⟩) ⟨fun b2 U g mk q => ⟨q.1, q.2.1, PN.blind U g mk b2 q.2.2.1, q.2.2.2⟩, fun U hU hW => ⟨rfl, (congrArg Array.size hU), PN.at hK hLF.2.2.2.2.2.2 hSK.2.2.1 hS hFw (strip_P hP) U hU hW, (strip_D hD).weaken (fun _ _ _ _ => trivial)⟩⟩ (g := F0 m _ ls _) rfl rfl hl.1 rfl (lv_room (Nat.le_of_ble_eq_true rfl)) dL_drawn_4 ⟨(show _ ≤ 260 by omega), (show _ ≤ 64 * 260 by omega)⟩) hP hD hS hA (MC := 260) (59) 200 (by decide) (by decide) (by omega) (by omega) (fun u H locs cells slots _ hc hs hP hD hS => ?_)
  obtain ⟨a, ea⟩ : ∃ a : OA, a = (q, u.2.2.2.1.1, u.2.2.2.2.1.1, u.2.2.2.2.2.1, u.2.2.2.1.2.1, u.2.2.2.2.1.2 1, u.2.2.2.2.1.2 2, u.2.2.2.2.1.2 3, u.2.2.2.2.1.2 4, u.2.2.2.2.1.2 5, u.2.2.2.2.2.2 1, u.1, u.2.1, u.2.2.1, u.2.2.2.1.2.2) := ⟨_, rfl⟩
  have hP : va_P G vwCl (fl [OW cy a V00 U00]) H := by
    have e9 : fl [OW cy a V00 U00] = OW cy a V00 U00 := rfl
    rw [e9, OW00, ea]
    exact hP
  have hD : va_D (va_A [] s.heap.size) (fl [OW cy a V00 U00]) := by
    have e9 : fl [OW cy a V00 U00] = OW cy a V00 U00 := rfl
    rw [e9, OW00, ea]
    exact hD
  have eq9 : q = a.aX := by subst ea; rfl
  rw [eq9]
  refine lv_astore_n (lv' := [(1, .ref a.aX), (0, .ref b)]) hx hb dL_drawn_7 rfl hl (by decide) rfl (fun ls hl => ?_)
  refine lv_aload_n hx hb dL_drawn_8 rfl (lv_at hl 1 rfl) ?_
  refine lv_iconst (v := 0) hx hb dL_drawn_9 (by decide) ?_
  refine lv_t0 (show 0 = nI 0 from rfl) ?_
  refine m_ro (va_runS S9 (n_cell l G cy b L xs 0 (by omega)) (bigS 2 hts (big_at 5 9 rfl) (big_at 0 2 rfl) (big_at 5 11 rfl) (big_at 5 10 rfl) rfl rfl (by decide +kernel) ⟨Nat.le_of_ble_eq_true rfl, Nat.le_of_ble_eq_true rfl⟩) ⟨fun b2 U g mk q => ⟨q.1, cell_blind U g mk b2 q.2⟩, fun U hU hW => ⟨rfl, cell_at hX hbl hbA hL hS U hU hW⟩⟩ (g := F0 m _ ls _) rfl rfl hl.1 rfl (lv_room (Nat.le_of_ble_eq_true rfl)) dL_drawn_10 ⟨(show _ ≤ 260 by omega), (show _ ≤ 64 * 260 by omega)⟩) ?_
  refine lv_iconst (v := 1) hx hb dL_drawn_13 (by decide) ?_
  obtain ⟨C0, hC0, eC0⟩ := ush_ex (cellF L xs 0) 1 1 (by decide) (by decide)
  refine lv_iushr (v := nI C0) hx hb dL_drawn_14 eC0 ?_
  refine lv_istore_n (lv' := [(2, .int (nI C0)), (1, .ref a.aX), (0, .ref b)]) hx hb dL_drawn_15 rfl hl (by decide) rfl (fun ls hl => ?_)
  refine lv_iconst (v := 2) hx hb dL_drawn_16 (by decide) ?_
  refine lv_iload_n hx hb dL_drawn_17 rfl (lv_at hl 0 rfl) ?_
  refine lv_iconst (v := 4) hx hb dL_drawn_18 (by decide) ?_
  refine lv_irem hx hb dL_drawn_19 (by decide) ?_
  refine lv_t0 (show ((nI C0) - (nI C0) / 4 * 4) = nI (C0 % 4) from rem_n (by omega) (by decide) (by decide)) ?_
  refine lv_iadd hx hb dL_drawn_20 ?_
  obtain ⟨N, eN, hN2, hN5⟩ : ∃ N, C0 % 4 + 2 = N ∧ 2 ≤ N ∧ N ≤ 5 := ⟨_, rfl, by omega, by omega⟩
  refine lv_t0 (show (2 + (nI (C0 % 4))) = nI N from ((Int32.add_comm 2 (nI (C0 % 4))).trans (nI_add (C0 % 4) 2)).trans (congrArg nI eN)) ?_
  refine lv_istore_n (lv' := [(3, .int (nI N)), (2, .int (nI C0)), (1, .ref a.aX), (0, .ref b)]) hx hb dL_drawn_21 rfl hl (by decide) rfl (fun ls hl => ?_)
  refine lv_iconst (v := 0) hx hb dL_drawn_22 (by decide) ?_
  refine lv_istore (lv' := [(4, .int 0), (3, .int (nI N)), (2, .int (nI C0)), (1, .ref a.aX), (0, .ref b)]) hx hb dL_drawn_23 hl (by decide) rfl (fun ls hl => ?_)
  have L25 : ∀ (d k : Nat), k + d = N → ∀ (u : OU) (V1 : OV) (H : Heap) (locs : List Loc) (cells slots : Nat), (DG (1800 * k) k k V1) → cells + (6 * d + 9) ≤ 260 → slots + 64 * (6 * d + 9) ≤ 64 * 260 → va_P G vwCl (fl [OW cy a V1 u]) H → va_D (va_A [] s.heap.size) (fl [OW cy a V1 u]) → va_S (va_A [] s.heap.size) s.heap H locs → ∀ ls : Array Slot, lv_has ls 8 [(4, .int (nI k)), (3, .int (nI N)), (1, .ref a.aX), (0, .ref b)] → W p l e ({ frames := 14, cells := 260, slots := 64 * 260, locals := 450 } : Room) s m ([.ref b] : List Value).toArray below meth cq H locs cells slots (grZ below ([.ref b] : List Value).toArray s 260 (64 * 260) G [] (fun z9 : OA × OV × OU => DF z9.2.1) (fun z9 : OA × OV × OU => OW cy z9.1 z9.2.1 z9.2.2) (fun z9 : OA × OV × OU => some (.ref z9.1.aX))) (F0 m 25 ls []) := by
    intro d
    induction d with
    | zero =>
      intro k hk u V1 H locs cells slots hV hc hs hP hD hS ls hl
      have hk9 : k = N := by omega
      subst hk9
      refine lv_iload hx hb dL_drawn_25 (lv_at hl 0 rfl) ?_
      refine lv_iload_n hx hb dL_drawn_27 rfl (lv_at hl 1 rfl) ?_
      refine lv_icmp_ge (tgt := 176) hx hb dL_drawn_28 (by decide) (fun _ => ?_) (fun c9 => absurd (Int32.le_refl _) c9)
      refine lv_iconst (v := 0) hx hb dL_drawn_176 (by decide) ?_
      refine lv_istore (lv' := [(4, .int 0), (3, .int (nI k)), (1, .ref a.aX), (0, .ref b)]) hx hb dL_drawn_177 hl (by decide) rfl (fun ls hl => ?_)
      have L179 : ∀ (d i : Nat), i + d = 7 → ∀ (u : OU) (V1 : OV) (H : Heap) (locs : List Loc) (cells slots : Nat), (DG (9000 + 300 * i) k k V1) → cells + (1 * d + 1) ≤ 260 → slots + 64 * (1 * d + 1) ≤ 64 * 260 → va_P G vwCl (fl [OW cy a V1 u]) H → va_D (va_A [] s.heap.size) (fl [OW cy a V1 u]) → va_S (va_A [] s.heap.size) s.heap H locs → ∀ ls : Array Slot, lv_has ls 8 [(4, .int (nI i)), (3, .int (nI k)), (1, .ref a.aX), (0, .ref b)] → W p l e ({ frames := 14, cells := 260, slots := 64 * 260, locals := 450 } : Room) s m ([.ref b] : List Value).toArray below meth cq H locs cells slots (grZ below ([.ref b] : List Value).toArray s 260 (64 * 260) G [] (fun z9 : OA × OV × OU => DF z9.2.1) (fun z9 : OA × OV × OU => OW cy z9.1 z9.2.1 z9.2.2) (fun z9 : OA × OV × OU => some (.ref z9.1.aX))) (F0 m 179 ls []) := by
        intro d
        induction d with
        | zero =>
          intro i hi u V1 H locs cells slots hV hc hs hP hD hS ls hl
          have hi9 : i = 7 := by omega
          have et : i = 7 := hi9
          subst et
          refine lv_iload hx hb dL_drawn_179 (lv_at hl 0 rfl) ?_
          refine lv_bipush (v := 7) hx hb dL_drawn_181 (by decide) ?_
          refine lv_icmp_ge (tgt := 319) hx hb dL_drawn_183 (by decide) (fun _ => ?_) (fun c9 => absurd (by decide) c9)
          refine lv_aload_n hx hb dL_drawn_319 rfl (lv_at hl 2 rfl) ?_
          exact W.widen (show cells ≤ 260 by omega) (show slots ≤ 64 * 260 by omega) (W.aret hx hb hr (Or.inl ⟨_, rfl⟩) (Or.inr ⟨_, rfl⟩) (fun t ht _ => ⟨(a, V1, u), ⟨hV.1.mono (by omega), hV.2.1, hV.2.2.1, by show 0 < nB V1.σ; rw [hV.2.2.2.1]; omega⟩, rfl, by rw [ht]; exact hP, hD, hS.F ht⟩) hS.2.2 dL_drawn_320 hlocks)
        | succ d ih2 =>
          intro i hi u V1 H locs cells slots hV hc hs hP hD hS ls hl
          have hi9 : i < 7 := by omega
          refine lv_iload hx hb dL_drawn_179 (lv_at hl 0 rfl) ?_
          refine lv_bipush (v := 7) hx hb dL_drawn_181 (by decide) ?_
          refine lv_icmp_ge (tgt := 319) hx hb dL_drawn_183 (by decide) (fun c9 => absurd c9 (fun q => absurd ((m_leN (a := 7) (b := i) rfl rfl (by omega) (by omega)).mp q) (by omega))) (fun _ => ?_)
          refine lv_aload_n hx hb dL_drawn_186 rfl (lv_at hl 3 rfl) ?_
          refine lv_bipush (v := 6) hx hb dL_drawn_187 (by decide) ?_
          refine lv_iload hx hb dL_drawn_189 (lv_at hl 0 rfl) ?_
          refine lv_iadd hx hb dL_drawn_191 ?_
          refine lv_t0 (show (6 + (nI i)) = nI (i + 6) from (Int32.add_comm 6 (nI (i))).trans (nI_add (i) 6)) ?_
          refine m_ro (va_runS S9 (n_cell l G cy b L xs (i + 6) (by omega)) (bigS 2 hts (big_at 5 9 rfl) (big_at 0 2 rfl) (big_at 5 11 rfl) (big_at 5 10 rfl) rfl rfl (by decide +kernel) ⟨Nat.le_of_ble_eq_true rfl, Nat.le_of_ble_eq_true rfl⟩) ⟨fun b2 U g mk q => ⟨q.1, cell_blind U g mk b2 q.2⟩, fun U hU hW => ⟨rfl, cell_at hX hbl hbA hL hS U hU hW⟩⟩ (g := F0 m _ ls _) rfl rfl hl.1 rfl (lv_room (Nat.le_of_ble_eq_true rfl)) dL_drawn_192 ⟨(show _ ≤ 260 by omega), (show _ ≤ 64 * 260 by omega)⟩) ?_
          refine lv_iconst (v := 1) hx hb dL_drawn_195 (by decide) ?_
          obtain ⟨N1, hN1, eN1⟩ := ush_ex (cellF L xs (i + 6)) 1 1 (by decide) (by decide)
          refine lv_iushr (v := nI N1) hx hb dL_drawn_196 eN1 ?_
          refine lv_istore (lv' := [(5, .int (nI N1)), (4, .int (nI i)), (3, .int (nI k)), (1, .ref a.aX), (0, .ref b)]) hx hb dL_drawn_197 hl (by decide) rfl (fun ls hl => ?_)
          refine lv_iload hx hb dL_drawn_199 (lv_at hl 0 rfl) ?_
          refine lv_iconst (v := 3) hx hb dL_drawn_201 (by decide) ?_
          refine lv_iushr (v := nI (N1 / 8)) hx hb dL_drawn_202 (pk_ushrN (by omega) _ 3 (by decide)) ?_
          refine lv_iload_n hx hb dL_drawn_203 rfl (lv_at hl 2 rfl) ?_
          refine lv_irem hx hb dL_drawn_204 (fun z => absurd ((nI_eq (b := 0) (by omega) (by omega)).mp z) (by omega)) ?_
          refine lv_t0 (show ((nI (N1 / 8)) - (nI (N1 / 8)) / (nI k) * (nI k)) = nI ((N1 / 8) % k) from rem_n (by omega) (by omega) (by omega)) ?_
          have hj9 : N1 / 8 % k < k := Nat.mod_lt _ (by omega)
          have hj8 : (N1 / 8 % k + 1) % k < k := Nat.mod_lt _ (by omega)
          obtain ⟨j9, ej9⟩ : ∃ z, z = N1 / 8 % k := ⟨_, rfl⟩
          rw [← ej9] at hj9 hj8
          rw [← ej9]
          have hNB : nB V1.σ = k := hV.2.2.2.1
          have hix9 : inI (nI j9) (nI (nB V1.σ)) = true := by rw [hNB]; exact inI_n hj9 (by omega)
          have hix8 : inI (nI ((j9 + 1) % k)) (nI (nB V1.σ)) = true := by rw [hNB]; exact inI_n hj8 (by omega)
          refine lv_istore (lv' := [(6, .int (nI j9)), (5, .int (nI N1)), (4, .int (nI i)), (3, .int (nI k)), (1, .ref a.aX), (0, .ref b)]) hx hb dL_drawn_205 hl (by decide) rfl (fun ls hl => ?_)
          refine lv_iload hx hb dL_drawn_207 (lv_at hl 1 rfl) ?_
          refine lv_iconst (v := 4) hx hb dL_drawn_209 (by decide) ?_
          have J303 : ∀ (V3 : OV) (r : Int32) (u : OU) (H : Heap) (locs : List Loc) (cells slots : Nat), (¬ r = -1) → (DG (9000 + 300 * i + 300) k k V3) → cells + (1 * d + 1) ≤ 260 → slots + 64 * (1 * d + 1) ≤ 64 * 260 → va_P G vwCl (fl [OW cy a V3 u]) H → va_D (va_A [] s.heap.size) (fl [OW cy a V3 u]) → va_S (va_A [] s.heap.size) s.heap H locs → ∀ ls : Array Slot, lv_has ls 8 [(4, .int (nI i)), (3, .int (nI k)), (1, .ref a.aX), (0, .ref b)] → W p l e ({ frames := 14, cells := 260, slots := 64 * 260, locals := 450 } : Room) s m ([.ref b] : List Value).toArray below meth cq H locs cells slots (grZ below ([.ref b] : List Value).toArray s 260 (64 * 260) G [] (fun z9 : OA × OV × OU => DF z9.2.1) (fun z9 : OA × OV × OU => OW cy z9.1 z9.2.1 z9.2.2) (fun z9 : OA × OV × OU => some (.ref z9.1.aX))) (F0 m 303 ls [.int r]) := by
            intro V3 r u H locs cells slots hr9 hV3 hc hs hP hD hS ls hl
            refine lv_istore (lv' := [(7, .int r), (4, .int (nI i)), (3, .int (nI k)), (1, .ref a.aX), (0, .ref b)]) hx hb dL_drawn_303 hl (by decide) rfl (fun ls hl => ?_)
            refine lv_iload hx hb dL_drawn_305 (lv_at hl 0 rfl) ?_
            refine lv_iconst (v := (-1)) hx hb dL_drawn_307 (by decide) ?_
            refine lv_icmp_ne (tgt := 313) hx hb dL_drawn_308 (by decide) (fun _ => ?_) (fun c9 => absurd c9 hr9)
            refine lv_iinc (v := nI (i + 1)) (lv' := [(4, .int (nI (i + 1))), (7, .int r), (3, .int (nI k)), (1, .ref a.aX), (0, .ref b)]) hx hb dL_drawn_313 hl (k := 1) rfl (m_inc _) (by decide) rfl (fun ls hl => ?_)
            refine lv_goto (tgt := 179) hx hb dL_drawn_316 (by decide) ?_
            exact ih2 (i + 1) (by omega) _ V3 _ _ _ _ (hV3.mono (by omega)) (by omega) (by omega) hP hD hS ls (lv_sub hl [0, 2, 3, 4] rfl)
          refine lv_irem hx hb dL_drawn_210 (by decide) ?_
          refine lv_t0 (show ((nI N1) - (nI N1) / 4 * 4) = nI (N1 % 4) from rem_n (by omega) (by decide) (by decide)) ?_
          refine lv_if_ne (tgt := 239) hx hb dL_drawn_211 (by decide) (fun c9 => ?_) (fun c9 => ?_)
          · refine lv_iload hx hb dL_drawn_239 (lv_at hl 1 rfl) ?_
            refine lv_iconst (v := 4) hx hb dL_drawn_241 (by decide) ?_
            refine lv_irem hx hb dL_drawn_242 (by decide) ?_
            refine lv_t0 (show ((nI N1) - (nI N1) / 4 * 4) = nI (N1 % 4) from rem_n (by omega) (by decide) (by decide)) ?_
            refine lv_iconst (v := 1) hx hb dL_drawn_243 (by decide) ?_
            refine lv_icmp_ne (tgt := 273) hx hb dL_drawn_244 (by decide) (fun c9 => ?_) (fun c9 => ?_)
            · refine lv_iload hx hb dL_drawn_273 (lv_at hl 1 rfl) ?_
              refine lv_iconst (v := 4) hx hb dL_drawn_275 (by decide) ?_
              refine lv_irem hx hb dL_drawn_276 (by decide) ?_
              refine lv_t0 (show ((nI N1) - (nI N1) / 4 * 4) = nI (N1 % 4) from rem_n (by omega) (by decide) (by decide)) ?_
              refine lv_iconst (v := 2) hx hb dL_drawn_277 (by decide) ?_
              refine lv_icmp_ne (tgt := 290) hx hb dL_drawn_278 (by decide) (fun c9 => ?_) (fun c9 => ?_)
              · refine lv_aload_n hx hb dL_drawn_290 rfl (lv_at hl 4 rfl) ?_
                refine lv_iconst (v := 1) hx hb dL_drawn_291 (by decide) ?_
                refine lv_iload hx hb dL_drawn_292 (lv_at hl 1 rfl) ?_
                refine lv_bipush (v := 6) hx hb dL_drawn_294 (by decide) ?_
                refine lv_iushr (v := nI (N1 / 64)) hx hb dL_drawn_296 (pk_ushrN (by omega) _ 6 (by decide)) ?_
                refine lv_iconst (v := 4) hx hb dL_drawn_297 (by decide) ?_
                refine lv_irem hx hb dL_drawn_298 (by decide) ?_
                refine lv_t0 (show ((nI (N1 / 64)) - (nI (N1 / 64)) / 4 * 4) = nI ((N1 / 64) % 4) from rem_n (by omega) (by decide) (by decide)) ?_
                refine lv_iadd hx hb dL_drawn_299 ?_
                refine lv_t0 (show (1 + (nI ((N1 / 64) % 4))) = nI (N1 / 64 % 4 + 1) from (Int32.add_comm 1 (nI (N1 / 64 % 4))).trans (nI_add (N1 / 64 % 4) 1)) ?_
                refine lx_SW S9 hLF (g_advance l G cy kS vS a V1 (9000 + 300 * i) (nI (N1 / 64 % 4 + 1)) hl9 hV.1 (by omega)) (bigSW 2 hts (big_at 13 11 rfl) (big_at 0 2 rfl) (big_at 13 13 rfl) (big_at 13 12 rfl) rfl rfl (by decide +kernel) ⟨Nat.le_of_ble_eq_true rfl, Nat.le_of_ble_eq_true rfl⟩) hP hD hS hA rfl hl.1 rfl (Nat.le_of_ble_eq_true rfl) (MC := 260) ⟨rfl, rfl⟩ (1 * d + 1) (by omega) (by omega) dL_drawn_300 (fun V2 r2 u H locs cells slots hR hc hs hP hD hS => ?_)
                have hP : va_P G vwCl (fl [OW cy a V2 u]) H := hP
                have hD : va_D (va_A [] s.heap.size) (fl [OW cy a V2 u]) := hD
                obtain ⟨r, e2, hr9, hV4⟩ := hR.dg (if_pos (inR_n (lo := 1) (hi := 20) (by omega) (by omega) (by decide))) hV
                subst e2
                exact J303 V2 r _ _ _ _ _ hr9 hV4 (by omega) (by omega) hP hD hS ls (lv_sub hl [2, 3, 4, 5] rfl)
              · refine lv_aload_n hx hb dL_drawn_281 rfl (lv_at hl 4 rfl) ?_
                refine lv_iload hx hb dL_drawn_282 (lv_at hl 0 rfl) ?_
                refine lx_SW S9 hLF (g_join l G cy kS vS a V1 (9000 + 300 * i) (nI j9) hl9 hV.1 (by omega)) (bigSW 2 hts (big_at 10 17 rfl) (big_at 0 2 rfl) (big_at 10 19 rfl) (big_at 10 18 rfl) rfl rfl (by decide +kernel) ⟨Nat.le_of_ble_eq_true rfl, Nat.le_of_ble_eq_true rfl⟩) hP hD hS hA rfl hl.1 rfl (Nat.le_of_ble_eq_true rfl) (MC := 260) ⟨rfl, rfl⟩ (1 * d + 1) (by omega) (by omega) dL_drawn_284 (fun V2 r2 u H locs cells slots hR hc hs hP hD hS => ?_)
                have hP : va_P G vwCl (fl [OW cy a V2 u]) H := hP
                have hD : va_D (va_A [] s.heap.size) (fl [OW cy a V2 u]) := hD
                obtain ⟨r, e2, hr9, hV4⟩ := hR.dg hix9 hV
                subst e2
                refine lv_goto (tgt := 303) hx hb dL_drawn_287 (by decide) ?_
                exact J303 V2 r _ _ _ _ _ hr9 hV4 (by omega) (by omega) hP hD hS ls (lv_sub hl [2, 3, 4, 5] rfl)
            · refine lv_aload_n hx hb dL_drawn_247 rfl (lv_at hl 4 rfl) ?_
              refine lv_iload hx hb dL_drawn_248 (lv_at hl 0 rfl) ?_
              refine lv_iload hx hb dL_drawn_250 (lv_at hl 1 rfl) ?_
              refine lv_bipush (v := 6) hx hb dL_drawn_252 (by decide) ?_
              refine lv_iushr (v := nI (N1 / 64)) hx hb dL_drawn_254 (pk_ushrN (by omega) _ 6 (by decide)) ?_
              refine lv_iconst (v := 3) hx hb dL_drawn_255 (by decide) ?_
              refine lv_irem hx hb dL_drawn_256 (by decide) ?_
              refine lv_t0 (show ((nI (N1 / 64)) - (nI (N1 / 64)) / 3 * 3) = nI ((N1 / 64) % 3) from rem_n (by omega) (by decide) (by decide)) ?_
              refine lv_iconst (v := 1) hx hb dL_drawn_257 (by decide) ?_
              refine lv_iload hx hb dL_drawn_258 (lv_at hl 1 rfl) ?_
              refine lv_bipush (v := 8) hx hb dL_drawn_260 (by decide) ?_
              refine lv_iushr (v := nI (N1 / 256)) hx hb dL_drawn_262 (pk_ushrN (by omega) _ 8 (by decide)) ?_
              refine lv_bipush (v := 20) hx hb dL_drawn_263 (by decide) ?_
              refine lv_irem hx hb dL_drawn_265 (by decide) ?_
              refine lv_t0 (show ((nI (N1 / 256)) - (nI (N1 / 256)) / 20 * 20) = nI ((N1 / 256) % 20) from rem_n (by omega) (by decide) (by decide)) ?_
              refine lv_iadd hx hb dL_drawn_266 ?_
              refine lx_SW S9 hLF (g_runTap l G cy kS vS a V1 (9000 + 300 * i) (nI j9) (nI (N1 / 64 % 3)) (1 + nI (N1 / 256 % 20)) hl9 hV.1 (by omega)) (bigSW 4 hts (big_at 8 0 rfl) (big_at 0 2 rfl) (big_at 8 2 rfl) (big_at 8 1 rfl) rfl rfl (by decide +kernel) ⟨Nat.le_of_ble_eq_true rfl, Nat.le_of_ble_eq_true rfl⟩) hP hD hS hA rfl hl.1 rfl (Nat.le_of_ble_eq_true rfl) (MC := 260) ⟨rfl, rfl⟩ (1 * d + 1) (by omega) (by omega) dL_drawn_267 (fun V2 r2 u H locs cells slots hR hc hs hP hD hS => ?_)
              have hP : va_P G vwCl (fl [OW cy a V2 u]) H := hP
              have hD : va_D (va_A [] s.heap.size) (fl [OW cy a V2 u]) := hD
              obtain ⟨r, e2, hr9, hV4⟩ := hR.dg hix9 hV
              subst e2
              refine lv_goto (tgt := 303) hx hb dL_drawn_270 (by decide) ?_
              exact J303 V2 r _ _ _ _ _ hr9 hV4 (by omega) (by omega) hP hD hS ls (lv_sub hl [2, 3, 4, 5] rfl)
          · refine lv_aload_n hx hb dL_drawn_214 rfl (lv_at hl 4 rfl) ?_
            refine lv_iload hx hb dL_drawn_215 (lv_at hl 0 rfl) ?_
            refine lv_iload hx hb dL_drawn_217 (lv_at hl 0 rfl) ?_
            refine lv_iconst (v := 1) hx hb dL_drawn_219 (by decide) ?_
            refine lv_iadd hx hb dL_drawn_220 ?_
            refine lv_t0 (show ((nI j9) + 1) = nI (j9 + 1) from nI_1 j9) ?_
            refine lv_iload_n hx hb dL_drawn_221 rfl (lv_at hl 3 rfl) ?_
            refine lv_irem hx hb dL_drawn_222 (fun z => absurd ((nI_eq (b := 0) (by omega) (by omega)).mp z) (by omega)) ?_
            refine lv_t0 (show ((nI (j9 + 1)) - (nI (j9 + 1)) / (nI k) * (nI k)) = nI ((j9 + 1) % k) from rem_n (by omega) (by omega) (by omega)) ?_
            refine lv_iconst (v := 1) hx hb dL_drawn_223 (by decide) ?_
            refine lv_iload hx hb dL_drawn_224 (lv_at hl 1 rfl) ?_
            refine lv_bipush (v := 6) hx hb dL_drawn_226 (by decide) ?_
            refine lv_iushr (v := nI (N1 / 64)) hx hb dL_drawn_228 (pk_ushrN (by omega) _ 6 (by decide)) ?_
            refine lv_bipush (v := 20) hx hb dL_drawn_229 (by decide) ?_
            refine lv_irem hx hb dL_drawn_231 (by decide) ?_
            refine lv_t0 (show ((nI (N1 / 64)) - (nI (N1 / 64)) / 20 * 20) = nI ((N1 / 64) % 20) from rem_n (by omega) (by decide) (by decide)) ?_
            refine lv_iadd hx hb dL_drawn_232 ?_
            refine lx_SW S9 hLF (g_pour l G cy kS vS a V1 (9000 + 300 * i) (nI j9) (nI ((j9 + 1) % k)) (1 + nI (N1 / 64 % 20)) hl9 hV.1 (by omega)) (bigSW 4 hts (big_at 12 15 rfl) (big_at 0 2 rfl) (big_at 12 17 rfl) (big_at 12 16 rfl) rfl rfl (by decide +kernel) ⟨Nat.le_of_ble_eq_true rfl, Nat.le_of_ble_eq_true rfl⟩) hP hD hS hA rfl hl.1 rfl (Nat.le_of_ble_eq_true rfl) (MC := 260) ⟨rfl, rfl⟩ (1 * d + 1) (by omega) (by omega) dL_drawn_233 (fun V2 r2 u H locs cells slots hR hc hs hP hD hS => ?_)
            have hP : va_P G vwCl (fl [OW cy a V2 u]) H := hP
            have hD : va_D (va_A [] s.heap.size) (fl [OW cy a V2 u]) := hD
            obtain ⟨r, e2, hr9, hV4⟩ := hR.dg ⟨hix9, hix8⟩ hV
            subst e2
            refine lv_goto (tgt := 303) hx hb dL_drawn_236 (by decide) ?_
            exact J303 V2 r _ _ _ _ _ hr9 hV4 (by omega) (by omega) hP hD hS ls (lv_sub hl [2, 3, 4, 5] rfl)
      exact L179 (7) 0 (by omega) _ V1 _ _ _ _ (hV.mono (by omega)) (by omega) (by omega) hP hD hS ls (lv_sub hl [0, 1, 2, 3] rfl)
    | succ d ih =>
      intro k hk u V1 H locs cells slots hV hc hs hP hD hS ls hl
      have hk9 : k < N := by omega
      have hk5 : k < 5 := by omega
      refine lv_iload hx hb dL_drawn_25 (lv_at hl 0 rfl) ?_
      refine lv_iload_n hx hb dL_drawn_27 rfl (lv_at hl 1 rfl) ?_
      refine lv_icmp_ge (tgt := 176) hx hb dL_drawn_28 (by decide) (fun c9 => absurd c9 (fun q => absurd ((nI_leI (by omega) (by omega)).mp q) (by omega))) (fun _ => ?_)
      refine lv_aload_n hx hb dL_drawn_31 rfl (lv_at hl 3 rfl) ?_
      refine lv_iconst (v := 1) hx hb dL_drawn_32 (by decide) ?_
      refine lv_iload hx hb dL_drawn_33 (lv_at hl 0 rfl) ?_
      refine lv_iadd hx hb dL_drawn_35 ?_
      refine lv_t0 (show (1 + (nI k)) = nI (k + 1) from (Int32.add_comm 1 (nI (k))).trans (nI_add (k) 1)) ?_
      refine m_ro (va_runS S9 (n_cell l G cy b L xs (k + 1) (by omega)) (bigS 2 hts (big_at 5 9 rfl) (big_at 0 2 rfl) (big_at 5 11 rfl) (big_at 5 10 rfl) rfl rfl (by decide +kernel) ⟨Nat.le_of_ble_eq_true rfl, Nat.le_of_ble_eq_true rfl⟩) ⟨fun b2 U g mk q => ⟨q.1, cell_blind U g mk b2 q.2⟩, fun U hU hW => ⟨rfl, cell_at hX hbl hbA hL hS U hU hW⟩⟩ (g := F0 m _ ls _) rfl rfl hl.1 rfl (lv_room (Nat.le_of_ble_eq_true rfl)) dL_drawn_36 ⟨(show _ ≤ 260 by omega), (show _ ≤ 64 * 260 by omega)⟩) ?_
      refine lv_iconst (v := 1) hx hb dL_drawn_39 (by decide) ?_
      obtain ⟨N1, hN1, eN1⟩ := ush_ex (cellF L xs (k + 1)) 1 1 (by decide) (by decide)
      refine lv_iushr (v := nI N1) hx hb dL_drawn_40 eN1 ?_
      refine lv_istore (lv' := [(5, .int (nI N1)), (4, .int (nI k)), (3, .int (nI N)), (1, .ref a.aX), (0, .ref b)]) hx hb dL_drawn_41 hl (by decide) rfl (fun ls hl => ?_)
      refine lv_iconst (v := 1) hx hb dL_drawn_43 (by decide) ?_
      refine lv_iload hx hb dL_drawn_44 (lv_at hl 0 rfl) ?_
      refine lv_iconst (v := 2) hx hb dL_drawn_46 (by decide) ?_
      refine lv_iushr (v := nI (N1 / 4)) hx hb dL_drawn_47 (pk_ushrN (by omega) _ 2 (by decide)) ?_
      refine lv_bipush (v := 20) hx hb dL_drawn_48 (by decide) ?_
      refine lv_irem hx hb dL_drawn_50 (by decide) ?_
      refine lv_t0 (show ((nI (N1 / 4)) - (nI (N1 / 4)) / 20 * 20) = nI ((N1 / 4) % 20) from rem_n (by omega) (by decide) (by decide)) ?_
      refine lv_iadd hx hb dL_drawn_51 ?_
      refine lv_t0 (show (1 + (nI ((N1 / 4) % 20))) = nI (N1 / 4 % 20 + 1) from (Int32.add_comm 1 (nI (N1 / 4 % 20))).trans (nI_add (N1 / 4 % 20) 1)) ?_
      refine lv_istore (lv' := [(6, .int (nI (N1 / 4 % 20 + 1))), (5, .int (nI N1)), (4, .int (nI k)), (3, .int (nI N)), (1, .ref a.aX), (0, .ref b)]) hx hb dL_drawn_52 hl (by decide) rfl (fun ls hl => ?_)
      refine lv_aload_n hx hb dL_drawn_54 rfl (lv_at hl 4 rfl) ?_
      have J128 : ∀ (V3 : OV) (u : OU) (H : Heap) (locs : List Loc) (cells slots : Nat), (DG (1800 * k + 1200) (k + 1) k V3) → cells + (6 * d + 11) ≤ 260 → slots + 64 * (6 * d + 11) ≤ 64 * 260 → va_P G vwCl (fl [OW cy a V3 u]) H → va_D (va_A [] s.heap.size) (fl [OW cy a V3 u]) → va_S (va_A [] s.heap.size) s.heap H locs → ∀ ls : Array Slot, lv_has ls 8 [(5, .int (nI N1)), (4, .int (nI k)), (3, .int (nI N)), (1, .ref a.aX), (0, .ref b)] → W p l e ({ frames := 14, cells := 260, slots := 64 * 260, locals := 450 } : Room) s m ([.ref b] : List Value).toArray below meth cq H locs cells slots (grZ below ([.ref b] : List Value).toArray s 260 (64 * 260) G [] (fun z9 : OA × OV × OU => DF z9.2.1) (fun z9 : OA × OV × OU => OW cy z9.1 z9.2.1 z9.2.2) (fun z9 : OA × OV × OU => some (.ref z9.1.aX))) (F0 m 128 ls []) := by
        intro V3 u H locs cells slots hV3 hc hs hP hD hS ls hl
        refine lv_aload_n hx hb dL_drawn_128 rfl (lv_at hl 3 rfl) ?_
        refine lv_iload hx hb dL_drawn_129 (lv_at hl 1 rfl) ?_
        refine lx_SW S9 hLF (g_join l G cy kS vS a V3 (1800 * k + 1200) (nI k) hl9 hV3.1 (by omega)) (bigSW 2 hts (big_at 10 17 rfl) (big_at 0 2 rfl) (big_at 10 19 rfl) (big_at 10 18 rfl) rfl rfl (by decide +kernel) ⟨Nat.le_of_ble_eq_true rfl, Nat.le_of_ble_eq_true rfl⟩) hP hD hS hA rfl hl.1 rfl (Nat.le_of_ble_eq_true rfl) (MC := 260) ⟨rfl, rfl⟩ (6 * d + 10) (by omega) (by omega) dL_drawn_131 (fun V2 r2 u H locs cells slots hR hc hs hP hD hS => ?_)
        have hP : va_P G vwCl (fl [OW cy a V2 u]) H := hP
        have hD : va_D (va_A [] s.heap.size) (fl [OW cy a V2 u]) := hD
        obtain ⟨r, e2, hr9, hV4⟩ := hR.dg (inI_n (by rw [hV3.2.2.2.1]; omega) (by rw [hV3.2.2.2.1]; omega)) hV3
        subst e2
        refine lv_iconst (v := (-1)) hx hb dL_drawn_134 (by decide) ?_
        refine lv_icmp_eq (tgt := 168) hx hb dL_drawn_135 (by decide) (fun c9 => absurd c9 hr9) (fun _ => ?_)
        refine lv_aload_n hx hb dL_drawn_138 rfl (lv_at hl 3 rfl) ?_
        refine lv_iload hx hb dL_drawn_139 (lv_at hl 1 rfl) ?_
        refine lv_iload hx hb dL_drawn_141 (lv_at hl 0 rfl) ?_
        refine lv_bipush (v := 9) hx hb dL_drawn_143 (by decide) ?_
        refine lv_iushr (v := nI (N1 / 512)) hx hb dL_drawn_145 (pk_ushrN (by omega) _ 9 (by decide)) ?_
        refine lv_bipush (v := 40) hx hb dL_drawn_146 (by decide) ?_
        refine lv_irem hx hb dL_drawn_148 (by decide) ?_
        refine lv_t0 (show ((nI (N1 / 512)) - (nI (N1 / 512)) / 40 * 40) = nI ((N1 / 512) % 40) from rem_n (by omega) (by decide) (by decide)) ?_
        refine lv_bipush (v := 40) hx hb dL_drawn_149 (by decide) ?_
        refine lv_iload hx hb dL_drawn_151 (lv_at hl 0 rfl) ?_
        refine lv_bipush (v := 12) hx hb dL_drawn_153 (by decide) ?_
        refine lv_iushr (v := nI (N1 / 4096)) hx hb dL_drawn_155 (pk_ushrN (by omega) _ 12 (by decide)) ?_
        refine lv_bipush (v := 20) hx hb dL_drawn_156 (by decide) ?_
        refine lv_irem hx hb dL_drawn_158 (by decide) ?_
        refine lv_t0 (show ((nI (N1 / 4096)) - (nI (N1 / 4096)) / 20 * 20) = nI ((N1 / 4096) % 20) from rem_n (by omega) (by decide) (by decide)) ?_
        refine lv_iadd hx hb dL_drawn_159 ?_
        refine lv_t0 (show (40 + (nI ((N1 / 4096) % 20))) = nI (N1 / 4096 % 20 + 40) from (Int32.add_comm 40 (nI (N1 / 4096 % 20))).trans (nI_add (N1 / 4096 % 20) 40)) ?_
        refine lx_SW S9 hLF (e_duck l G cy kS vS a V2 (1800 * k + 1500) k (N1 / 512 % 40) (N1 / 4096 % 20 + 40) hV4 hk5 (by omega) (by omega) (by omega)) (bigSW 4 hts (big_at 11 18 rfl) (big_at 0 2 rfl) (big_at 11 20 rfl) (big_at 11 19 rfl) rfl rfl (by decide +kernel) ⟨Nat.le_of_ble_eq_true rfl, Nat.le_of_ble_eq_true rfl⟩) hP hD hS hA rfl hl.1 rfl (Nat.le_of_ble_eq_true rfl) (MC := 260) ⟨rfl, rfl⟩ (6 * d + 9) (by omega) (by omega) dL_drawn_160 (fun V2 r2 u H locs cells slots hR hc hs hP hD hS => ?_)
        have hP : va_P G vwCl (fl [OW cy a V2 u]) H := hP
        have hD : va_D (va_A [] s.heap.size) (fl [OW cy a V2 u]) := hD
        obtain ⟨e2, hV5⟩ := hR
        subst e2
        refine lv_iload hx hb dL_drawn_163 (lv_at hl 1 rfl) ?_
        refine lv_icmp_eq (tgt := 170) hx hb dL_drawn_165 (by decide) (fun _ => ?_) (fun c9 => absurd rfl c9)
        refine lv_iinc (v := nI (k + 1)) (lv' := [(4, .int (nI (k + 1))), (5, .int (nI N1)), (3, .int (nI N)), (1, .ref a.aX), (0, .ref b)]) hx hb dL_drawn_170 hl (k := 1) rfl (m_inc _) (by decide) rfl (fun ls hl => ?_)
        refine lv_goto (tgt := 25) hx hb dL_drawn_173 (by decide) ?_
        exact ih (k + 1) (by omega) _ V2 _ _ _ _ (hV5.mono (by omega)) (by omega) (by omega) hP hD hS ls (lv_sub hl [0, 2, 3, 4] rfl)
      have J108 : ∀ (V3 : OV) (u : OU) (H : Heap) (locs : List Loc) (cells slots : Nat), (DG (1800 * k + 900) (k + 1) k V3) → (pB V3.σ k = 1) → cells + (6 * d + 12) ≤ 260 → slots + 64 * (6 * d + 12) ≤ 64 * 260 → va_P G vwCl (fl [OW cy a V3 u]) H → va_D (va_A [] s.heap.size) (fl [OW cy a V3 u]) → va_S (va_A [] s.heap.size) s.heap H locs → ∀ ls : Array Slot, lv_has ls 8 [(5, .int (nI N1)), (4, .int (nI k)), (3, .int (nI N)), (1, .ref a.aX), (0, .ref b)] → W p l e ({ frames := 14, cells := 260, slots := 64 * 260, locals := 450 } : Room) s m ([.ref b] : List Value).toArray below meth cq H locs cells slots (grZ below ([.ref b] : List Value).toArray s 260 (64 * 260) G [] (fun z9 : OA × OV × OU => DF z9.2.1) (fun z9 : OA × OV × OU => OW cy z9.1 z9.2.1 z9.2.2) (fun z9 : OA × OV × OU => some (.ref z9.1.aX))) (F0 m 108 ls []) := by
        intro V3 u H locs cells slots hV3 hp3 hc hs hP hD hS ls hl
        refine lv_iload hx hb dL_drawn_108 (lv_at hl 0 rfl) ?_
        refine lv_iconst (v := 4) hx hb dL_drawn_110 (by decide) ?_
        refine lv_irem hx hb dL_drawn_111 (by decide) ?_
        refine lv_t0 (show ((nI N1) - (nI N1) / 4 * 4) = nI (N1 % 4) from rem_n (by omega) (by decide) (by decide)) ?_
        refine lv_if_ne (tgt := 128) hx hb dL_drawn_112 (by decide) (fun c9 => ?_) (fun c9 => ?_)
        · exact J128 V3 _ _ _ _ _ (hV3.mono (by omega)) (by omega) (by omega) hP hD hS ls (lv_sub hl [0, 1, 2, 3, 4] rfl)
        · refine lv_aload_n hx hb dL_drawn_115 rfl (lv_at hl 3 rfl) ?_
          refine lv_iload hx hb dL_drawn_116 (lv_at hl 1 rfl) ?_
          refine lv_iconst (v := 0) hx hb dL_drawn_118 (by decide) ?_
          refine lx_SW S9 hLF (e_plug l G cy kS vS a V3 (1800 * k + 900) k hV3 hk5 hp3) (bigSW 3 hts (big_at 10 1 rfl) (big_at 0 2 rfl) (big_at 10 3 rfl) (big_at 10 2 rfl) rfl rfl (by decide +kernel) ⟨Nat.le_of_ble_eq_true rfl, Nat.le_of_ble_eq_true rfl⟩) hP hD hS hA rfl hl.1 rfl (Nat.le_of_ble_eq_true rfl) (MC := 260) ⟨rfl, rfl⟩ (6 * d + 11) (by omega) (by omega) dL_drawn_119 (fun V2 r2 u H locs cells slots hR hc hs hP hD hS => ?_)
          have hP : va_P G vwCl (fl [OW cy a V2 u]) H := hP
          have hD : va_D (va_A [] s.heap.size) (fl [OW cy a V2 u]) := hD
          obtain ⟨e2, hV4⟩ := hR
          subst e2
          refine lv_iconst (v := 1) hx hb dL_drawn_122 (by decide) ?_
          refine lv_icmp_eq (tgt := 128) hx hb dL_drawn_123 (by decide) (fun _ => ?_) (fun c9 => absurd (by decide) c9)
          exact J128 V2 _ _ _ _ _ (hV4.mono (by omega)) (by omega) (by omega) hP hD hS ls (lv_sub hl [0, 1, 2, 3, 4] rfl)
      refine lx_SW S9 hLF (e_add l G cy kS vS a V1 (1800 * k) k hV hk5) (bigSW 1 hts (big_at 5 13 rfl) (big_at 0 2 rfl) (big_at 5 15 rfl) (big_at 5 14 rfl) rfl rfl (by decide +kernel) ⟨Nat.le_of_ble_eq_true rfl, Nat.le_of_ble_eq_true rfl⟩) hP hD hS hA rfl hl.1 rfl (Nat.le_of_ble_eq_true rfl) (MC := 260) ⟨rfl, rfl⟩ (6 * d + 14) (by omega) (by omega) dL_drawn_55 (fun V2 r2 u H locs cells slots hR hc hs hP hD hS => ?_)
      have hP : va_P G vwCl (fl [OW cy a V2 u]) H := hP
      have hD : va_D (va_A [] s.heap.size) (fl [OW cy a V2 u]) := hD
      obtain ⟨e2, hV4, hp4, hv4⟩ := hR
      subst e2
      refine lv_iload hx hb dL_drawn_58 (lv_at hl 2 rfl) ?_
      refine lv_icmp_ne (tgt := 126) hx hb dL_drawn_60 (by decide) (fun c9 => absurd rfl c9) (fun _ => ?_)
      refine lv_iload hx hb dL_drawn_63 (lv_at hl 1 rfl) ?_
      refine lv_bipush (v := 7) hx hb dL_drawn_65 (by decide) ?_
      refine lv_irem hx hb dL_drawn_67 (by decide) ?_
      refine lv_t0 (show ((nI N1) - (nI N1) / 7 * 7) = nI (N1 % 7) from rem_n (by omega) (by decide) (by decide)) ?_
      refine lv_if_le (tgt := 108) hx hb dL_drawn_68 (by decide) (fun c9 => ?_) (fun c9 => ?_)
      · exact J108 V2 _ _ _ _ _ (hV4.mono (by omega)) hp4 (by omega) (by omega) hP hD hS ls (lv_sub hl [1, 2, 3, 4, 5] rfl)
      · refine lv_aload_n hx hb dL_drawn_71 rfl (lv_at hl 4 rfl) ?_
        refine lv_iload hx hb dL_drawn_72 (lv_at hl 2 rfl) ?_
        refine lv_iconst (v := 1) hx hb dL_drawn_74 (by decide) ?_
        refine lv_iload hx hb dL_drawn_75 (lv_at hl 0 rfl) ?_
        refine lx_SW S9 hLF (e_tap l G cy kS vS a V2 (1800 * k + 300) k 0 (N1 / 4 % 20 + 1) 1 hV4 hk5 (by omega) (by decide) (by omega) (by omega) (hv4.trans rfl) (by omega)) (bigSW 4 hts (big_at 8 0 rfl) (big_at 0 2 rfl) (big_at 8 2 rfl) (big_at 8 1 rfl) rfl rfl (by decide +kernel) ⟨Nat.le_of_ble_eq_true rfl, Nat.le_of_ble_eq_true rfl⟩) hP hD hS hA rfl hl.1 rfl (Nat.le_of_ble_eq_true rfl) (MC := 260) ⟨rfl, rfl⟩ (6 * d + 13) (by omega) (by omega) dL_drawn_77 (fun V2 r2 u H locs cells slots hR hc hs hP hD hS => ?_)
        have hP : va_P G vwCl (fl [OW cy a V2 u]) H := hP
        have hD : va_D (va_A [] s.heap.size) (fl [OW cy a V2 u]) := hD
        obtain ⟨e2, hV5, hp5, hv5⟩ := hR
        rw [Nat.zero_add] at e2 hv5
        subst e2
        refine lv_iload hx hb dL_drawn_80 (lv_at hl 0 rfl) ?_
        refine lv_icmp_ne (tgt := 126) hx hb dL_drawn_82 (by decide) (fun c9 => absurd rfl c9) (fun _ => ?_)
        refine lv_aload_n hx hb dL_drawn_85 rfl (lv_at hl 4 rfl) ?_
        refine lv_iload hx hb dL_drawn_86 (lv_at hl 2 rfl) ?_
        refine lv_iload hx hb dL_drawn_88 (lv_at hl 1 rfl) ?_
        refine lv_iconst (v := 3) hx hb dL_drawn_90 (by decide) ?_
        refine lv_irem hx hb dL_drawn_91 (by decide) ?_
        refine lv_t0 (show ((nI N1) - (nI N1) / 3 * 3) = nI (N1 % 3) from rem_n (by omega) (by decide) (by decide)) ?_
        refine lv_iconst (v := 1) hx hb dL_drawn_92 (by decide) ?_
        refine lv_iload hx hb dL_drawn_93 (lv_at hl 1 rfl) ?_
        refine lv_bipush (v := 7) hx hb dL_drawn_95 (by decide) ?_
        refine lv_iushr (v := nI (N1 / 128)) hx hb dL_drawn_97 (pk_ushrN (by omega) _ 7 (by decide)) ?_
        refine lv_bipush (v := 20) hx hb dL_drawn_98 (by decide) ?_
        refine lv_irem hx hb dL_drawn_100 (by decide) ?_
        refine lv_t0 (show ((nI (N1 / 128)) - (nI (N1 / 128)) / 20 * 20) = nI ((N1 / 128) % 20) from rem_n (by omega) (by decide) (by decide)) ?_
        refine lv_iadd hx hb dL_drawn_101 ?_
        refine lv_t0 (show (1 + (nI ((N1 / 128) % 20))) = nI (N1 / 128 % 20 + 1) from (Int32.add_comm 1 (nI (N1 / 128 % 20))).trans (nI_add (N1 / 128 % 20) 1)) ?_
        refine lx_SW S9 hLF (e_tap l G cy kS vS a V2 (1800 * k + 600) k (N1 / 4 % 20 + 1) (N1 / 128 % 20 + 1) (nI (N1 % 3)) hV5 hk5 (by omega) (inR_n (lo := 0) (hi := 2) (Nat.zero_le _) (by omega) (by decide)) (by omega) (by omega) hv5 (by omega)) (bigSW 4 hts (big_at 8 0 rfl) (big_at 0 2 rfl) (big_at 8 2 rfl) (big_at 8 1 rfl) rfl rfl (by decide +kernel) ⟨Nat.le_of_ble_eq_true rfl, Nat.le_of_ble_eq_true rfl⟩) hP hD hS hA rfl hl.1 rfl (Nat.le_of_ble_eq_true rfl) (MC := 260) ⟨rfl, rfl⟩ (6 * d + 12) (by omega) (by omega) dL_drawn_102 (fun V2 r2 u H locs cells slots hR hc hs hP hD hS => ?_)
        have hP : va_P G vwCl (fl [OW cy a V2 u]) H := hP
        have hD : va_D (va_A [] s.heap.size) (fl [OW cy a V2 u]) := hD
        obtain ⟨e2, hV6, hp6, hv6⟩ := hR
        subst e2
        refine lv_if_lt (tgt := 126) hx hb dL_drawn_105 (by decide) (fun c9 => absurd c9 (ge0_nI (by omega))) (fun _ => ?_)
        exact J108 V2 _ _ _ _ _ (hV6.mono (by omega)) (hp6.trans (hp5.trans hp4)) (by omega) (by omega) hP hD hS ls (lv_sub hl [1, 2, 3, 4, 5] rfl)
  exact L25 (N) 0 (by omega) _ V00 _ _ _ _ V00_ok (by omega) (by omega) hP hD hS ls (lv_sub hl [0, 1, 3, 4] rfl)
