/-! the law from its entry -/
section LWS
variable {p : Program} {l : Launch} {e : Env} {R0 : Room} {s : State} {m : MethodId} {args : Array Value} {below : List Frame} {meth : Method} {c : Code} {H H0 : Heap} {locs : List Loc} {cells slots : Nat} {Q : State → Prop}
variable {cc : ByteArray} {pc : Nat} {ls : Array Slot} {rest st0 : List Value} {G : va_G} {cy : Nat → ClassId} {kS vS : Nat → Nat} {A : Nat → Prop} {a : OA} {V : OV} {u : OU} {R : OV → Value → Prop} {ex : List va_W}
variable {y : MethodName} {bytes : ByteArray} {maxL nL n index F Lc k : Nat} {ret : Option FieldType} {Ts : List Cond} {own : String} {As : List Value}
theorem lw_S (S : CallFix p m c cc nL s args Ts own) (hF : LF G cy kS vS A s) (hM : LX l y F Lc k G cy kS vS a V As R) (cw : CallB R0 s args own index y bytes maxL ret wsL_law { frames := F, cells := k, slots := 64 * k, locals := Lc } k (64 * k) n ∧ (Cond.static y).before args s = true)
    (hP : va_P G vwCl (fl (OW cy a V u :: ex)) H) (hD : va_D A (fl (OW cy a V u :: ex))) (hS : va_S A s.heap H locs) (hA : ∀ q, s.heap.size ≤ q → A q) (hn : As.length = n) (hsize : ls.size = nL) (hstack : st0 = As.reverse ++ rest) (hW : (rest.map fun v => v.category).sum ≤ 8) (hf : cells + k ≤ R0.cells ∧ slots + 64 * k ≤ R0.slots) (hdg : decode cc pc = .ok (.invokestatic index, 3))
    (kk : ∀ (V' : OV) (r : Value) (u' : OU) (H1 : Heap) (locs1 : List Loc), R V' r → va_P G vwCl (fl (OW cy a V' u' :: ex)) H1 → va_D A (fl (OW cy a V' u' :: ex)) → va_S A s.heap H1 locs1 → W p l e R0 s m args below meth c H1 locs1 (cells + k) (slots + 64 * k) Q (F0 m (pc + 3) ls (r :: rest))) : W p l e R0 s m args below meth c H locs cells slots Q (F0 m pc ls st0) := by
  have hC := OW_poss (cy := cy) (a := a) (V := V) (u := u) ex
  have hsub0 := wA_sub hD _ hC
  have hPo := m_Ppart hP _ hC
  exact lx_run (va_runS S (hM u H.size) cw ⟨fun b2 U g mk q => ⟨q.1, q.2.1, PQ.blind U g mk b2 q.2.2.1, q.2.2.2⟩, fun U hU hW => ⟨rfl, by rw [hU], hF.pq hS hA hsub0 hPo U hU hW, m_Dpart hD _ (poss_nd (by decide)) hC⟩⟩ (g := F0 m pc ls st0) rfl hn hsize hstack (lv_room hW) hdg hf) hP hD hS hA kk
theorem lw_SZ (S : CallFix p m c cc nL s args Ts own) (hF : LF G cy kS vS A s) {b L : Nat} {xs : Nat → Int32} (hM : LZ l y F Lc k G cy kS vS a V b L xs As R) (cw : CallB R0 s args own index y bytes maxL ret wsL_law { frames := F, cells := k, slots := 64 * k, locals := Lc } k (64 * k) n ∧ (Cond.static y).before args s = true) (hX : va_X b L xs s s.heap) (hbl : b < s.heap.size) (hbA : ¬ A b) (hL : L ≤ 260)
    (hP : va_P G vwCl (fl (OW cy a V u :: ex)) H) (hD : va_D A (fl (OW cy a V u :: ex))) (hS : va_S A s.heap H locs) (hA : ∀ q, s.heap.size ≤ q → A q) (hn : As.length = n) (hsize : ls.size = nL) (hstack : st0 = As.reverse ++ rest) (hW : (rest.map fun v => v.category).sum ≤ 8) (hf : cells + k ≤ R0.cells ∧ slots + 64 * k ≤ R0.slots) (hdg : decode cc pc = .ok (.invokestatic index, 3))
    (kk : ∀ (V' : OV) (r : Value) (u' : OU) (H1 : Heap) (locs1 : List Loc), R V' r → va_P G vwCl (fl (OW cy a V' u' :: ex)) H1 → va_D A (fl (OW cy a V' u' :: ex)) → va_S A s.heap H1 locs1 → W p l e R0 s m args below meth c H1 locs1 (cells + k) (slots + 64 * k) Q (F0 m (pc + 3) ls (r :: rest))) : W p l e R0 s m args below meth c H locs cells slots Q (F0 m pc ls st0) := by
  have hC := OW_poss (cy := cy) (a := a) (V := V) (u := u) ex
  have hsub0 := wA_sub hD _ hC
  have hPo := m_Ppart hP _ hC
  exact lx_run (va_runS S (hM u H.size) cw ⟨fun b2 U g mk q => ⟨q.1, ⟨q.2.1.1, PQ.blind U g mk b2 q.2.1.2.1, q.2.1.2.2⟩, XQ.blind U g mk b2 q.2.2⟩, fun U hU hW => ⟨rfl, ⟨by rw [hU], hF.pq hS hA hsub0 hPo U hU hW, m_Dpart hD _ (poss_nd (by decide)) hC⟩, XQ.at hX hbl hbA hL hS hsub0 U hU hW⟩⟩ (g := F0 m pc ls st0) rfl hn hsize hstack (lv_room hW) hdg hf) hP hD hS hA kk
end LWS
set_option maxRecDepth 100000 in
set_option maxHeartbeats 8000000 in
/-- from the entry, for every script of at most 260 ints, the law comes to its end with true -/
theorem whole_start {p : Program} {e : Env} {s : State} {m : MethodId} {below : List Frame} {meth : Method} {c : Code} (l : Launch) (hflags : l.flags = flags0) {b L : Nat} {xs : Nat → Int32} (hL : L ≤ 260) (C0 : lw_At p s m meth c b L xs) : W p l e room_1 s m #[Value.ref b] below meth c s.heap [] 0 0 (lw_Z below #[Value.ref b] s) (entryFrame m ([Value.ref b] : List Value).toArray 2) := by
  obtain ⟨hx, hb0, hr, hml, hown, hts, hX, hbl, hlocks, hgv⟩ := id C0
  have hb : c.code = cL_law := hb0
  have hl9 : l.stackTraces = false := by
    unfold Launch.stackTraces
    rw [hflags]
    decide +kernel
  obtain ⟨A, eA⟩ : ∃ A : Nat → Prop, A = va_A [] s.heap.size := ⟨_, rfl⟩
  have hw0 : ∀ q, ¬ wA [] q := by
    rintro q ⟨k, e, h⟩
    simp at h
  have hA : ∀ q, s.heap.size ≤ q → A q := fun q h => by rw [eA]; exact Or.inr h
  have hA3 : ∀ q, A q → s.heap.size ≤ q := fun q h => by rw [eA] at h; exact h.elim (fun z => absurd z (hw0 q)) (fun z => z)
  have hA2 : ∀ q : Nat, q < s.heap.size → ¬ A q := fun q h z => absurd (hA3 q z) (Nat.not_le.mpr h)
  have hg := gv_s hgv
  obtain ⟨G, cy, hK⟩ := st_KK hts
  have hTZ := st_TZ hts hg hA2
  have hXS := st_XS hts hg hA2
  obtain ⟨kS, vS, hSK⟩ := st_SK hts hg hA2
  have hDZ := st_DZ hts hg hA2
  have hAO : va_AO "BathLeague$State" s := va_AO.of (hts (.arrayOver (.object "BathLeague$State")) (by decide +kernel))
  have hAA : va_AOA .int s := va_AOA.of (hts (.arrayOver (.array .int)) (by decide +kernel))
  have htL := wsL_law_ok hts
  have S9 : CallFix p m c cL_law 2 s #[.ref b] wsL_law RL := ⟨hx, hb, hml, hown, htL⟩
  have hLF : LF G cy kS vS A s := ⟨hK, hTZ, hXS, hSK, hDZ, hAA, hAO⟩
  have hbA : ¬ A b := hA2 b hbl
  have hS : va_S A s.heap s.heap [] := va_S.rf
  have hP : va_P G vwCl (fl [] ++ []) s.heap := fun k q h => by simp [fl] at h
  have hD : va_D A (fl [] ++ []) := ⟨fun i j p q h => by simp [fl] at h, fun k q h => by simp [fl] at h⟩
  have hl := lv_entry ([.ref b]) (n := 2) (Nat.le_of_ble_eq_true rfl)
  rw [lg_entry_eq]
  generalize (lg_sl ([.ref b]) ++ List.replicate (2 - (lg_sl ([.ref b])).length) Slot.unset).toArray = ls at hl ⊢
  have hl : lv_has ls 2 [(0, .ref b)] := hl
  have hc9 : 9000 ≤ room_1.cells := Nat.le_of_ble_eq_true rfl
  have hs9 : 64 * 9000 ≤ room_1.slots := Nat.le_of_ble_eq_true rfl
  have hP0 : va_P G vwCl [] s.heap := fun k q h => by simp at h
  refine lv_aload_n hx hb dL_law_0 rfl (lv_at hl 0 rfl) ?_
  refine lg_run (Wr := []) (w := []) (va_runS S9 ((n_drawn l G cy kS vS b L xs hl9) s.heap.size) (bigS 1 htL (big_at 0 0 rfl) (big_at 0 2 rfl) (big_at 0 3 rfl) (big_at 0 1 rfl) rfl rfl (by decide +kernel) ⟨Nat.le_of_ble_eq_true rfl, Nat.le_of_ble_eq_true rfl⟩) ⟨fun b2 U g mk q => ⟨q.1, q.2.1, ⟨PQ.blind U g mk b2 q.2.2.1.1, XQ.blind U g mk b2 q.2.2.1.2⟩, q.2.2.2⟩, fun U hU hW => ⟨rfl, (congrArg Array.size hU), ⟨hLF.pq hS hA (fun q h => absurd h (hw0 q)) hP0 U hU hW, XQ.at hX hbl hbA hL hS (fun q h => absurd h (hw0 q)) U hU hW⟩, ⟨fun i j p q h => by simp at h, fun k q h => by simp at h⟩⟩⟩ (g := F0 m _ ls _) rfl rfl hl.1 rfl (lv_room (Nat.le_of_ble_eq_true rfl)) dL_law_1 ⟨Nat.le_of_ble_eq_true rfl, Nat.le_of_ble_eq_true rfl⟩) hP hD hS hA (MC := 9000) 8000 260 (Nat.le_refl _) (Nat.le_refl _) (by omega) (by omega) (fun z9 H locs cells slots hG9 hc hs hP hD hS => ?_)
  obtain ⟨a, V, u⟩ := z9
  obtain ⟨hG, hn16, hE, h1n⟩ := hG9
  have hG : GV 20000 V := hG
  have hn16 : V.nb ≤ 16 := hn16
  have hE : Ev2 V.σ := hE
  have h1n : 0 < nB V.σ := h1n
  have hP : va_P G vwCl (fl [OW cy a V u]) H := hP
  have hD : va_D A (fl [OW cy a V u]) := hD
  have hc : cells + 8000 ≤ 9000 := hc
  have hs : slots + 64 * 8000 ≤ 64 * 9000 := hs
  refine lv_astore_n (lv' := [(1, .ref a.aX), (0, .ref b)]) hx hb dL_law_4 rfl hl (by decide) rfl (fun ls hl => ?_)
  refine lv_aload_n hx hb dL_law_5 rfl (lv_at hl 0 rfl) ?_
  refine lv_ifnull hx hb dL_law_6 ?_
  refine W.widen (show cells ≤ cells + 0 by omega) (show slots ≤ slots + 64 * 0 by omega) ?_
  refine lv_aload_n hx hb dL_law_9 rfl (lv_at hl 0 rfl) ?_
  refine lv_aload_n hx hb dL_law_10 rfl (lv_at hl 1 rfl) ?_
  refine lw_SZ S9 hLF (n_warmed l G cy kS vS a V b L xs 20000 hl9 hG.1 h1n) (bigS 2 htL (big_at 16 4 rfl) (big_at 0 2 rfl) (big_at 16 6 rfl) (big_at 16 5 rfl) rfl rfl (by decide +kernel) ⟨Nat.le_of_ble_eq_true rfl, Nat.le_of_ble_eq_true rfl⟩) hX hbl hbA hL hP hD hS hA rfl hl.1 rfl (Nat.le_of_ble_eq_true rfl) ⟨Nat.le_trans (show cells + 0 + 130 ≤ 9000 by omega) hc9, Nat.le_trans (show slots + 64 * 0 + 64 * 130 ≤ 64 * 9000 by omega) hs9⟩ dL_law_11 (fun V9 r9 u H locs hR hP hD hS => ?_)
  have hP : va_P G vwCl (fl [OW cy a V9 u]) H := hP
  have hD : va_D A (fl [OW cy a V9 u]) := hD
  obtain ⟨e1, e2⟩ := hR
  rw [e1] at hP hD
  rw [e2]
  refine W.widen (show _ ≤ cells + 130 by omega) (show _ ≤ slots + 64 * 130 by omega) ?_
  refine lv_if_eq (tgt := 57) hx hb dL_law_14 (by decide) (fun c9 => absurd c9 (by decide)) (fun _ => ?_)
  refine lv_aload_n hx hb dL_law_17 rfl (lv_at hl 0 rfl) ?_
  refine lw_S S9 hLF (n_league l G cy kS vS a V 20000 hl9 hG.1) (bigS 1 htL (big_at 21 16 rfl) (big_at 0 2 rfl) (big_at 21 18 rfl) (big_at 21 17 rfl) rfl rfl (by decide +kernel) ⟨Nat.le_of_ble_eq_true rfl, Nat.le_of_ble_eq_true rfl⟩) hP hD hS hA rfl hl.1 rfl (Nat.le_of_ble_eq_true rfl) ⟨Nat.le_trans (show cells + 130 + 20 ≤ 9000 by omega) hc9, Nat.le_trans (show slots + 64 * 130 + 64 * 20 ≤ 64 * 9000 by omega) hs9⟩ dL_law_18 (fun V9 r9 u H locs hR hP hD hS => ?_)
  have hP : va_P G vwCl (fl [OW cy a V9 u]) H := hP
  have hD : va_D A (fl [OW cy a V9 u]) := hD
  obtain ⟨e1, e2⟩ := hR
  rw [e1] at hP hD
  rw [e2]
  refine W.widen (show _ ≤ cells + 150 by omega) (show _ ≤ slots + 64 * 150 by omega) ?_
  refine lv_if_eq (tgt := 57) hx hb dL_law_21 (by decide) (fun c9 => absurd c9 (by decide)) (fun _ => ?_)
  refine lv_aload_n hx hb dL_law_24 rfl (lv_at hl 0 rfl) ?_
  refine lw_S S9 hLF (n_predicted l G cy kS vS a V 20000 hl9 hG.1 (by omega)) (bigS 1 htL (big_at 24 12 rfl) (big_at 0 2 rfl) (big_at 24 14 rfl) (big_at 24 13 rfl) rfl rfl (by decide +kernel) ⟨Nat.le_of_ble_eq_true rfl, Nat.le_of_ble_eq_true rfl⟩) hP hD hS hA rfl hl.1 rfl (Nat.le_of_ble_eq_true rfl) ⟨Nat.le_trans (show cells + 150 + 360 ≤ 9000 by omega) hc9, Nat.le_trans (show slots + 64 * 150 + 64 * 360 ≤ 64 * 9000 by omega) hs9⟩ dL_law_25 (fun V9 r9 u H locs hR hP hD hS => ?_)
  have hP : va_P G vwCl (fl [OW cy a V9 u]) H := hP
  have hD : va_D A (fl [OW cy a V9 u]) := hD
  obtain ⟨e1, e2⟩ := hR
  rw [e1] at hP hD
  rw [e2]
  refine W.widen (show _ ≤ cells + 510 by omega) (show _ ≤ slots + 64 * 510 by omega) ?_
  refine lv_if_eq (tgt := 57) hx hb dL_law_28 (by decide) (fun c9 => absurd c9 (by decide)) (fun _ => ?_)
  refine lv_aload_n hx hb dL_law_31 rfl (lv_at hl 0 rfl) ?_
  refine lw_S S9 hLF (n_ducks l G cy kS vS a V 20000 hl9 hG.1 (by omega) hE) (bigS 1 htL (big_at 26 0 rfl) (big_at 0 2 rfl) (big_at 26 2 rfl) (big_at 26 1 rfl) rfl rfl (by decide +kernel) ⟨Nat.le_of_ble_eq_true rfl, Nat.le_of_ble_eq_true rfl⟩) hP hD hS hA rfl hl.1 rfl (Nat.le_of_ble_eq_true rfl) ⟨Nat.le_trans (show cells + 510 + 90 ≤ 9000 by omega) hc9, Nat.le_trans (show slots + 64 * 510 + 64 * 90 ≤ 64 * 9000 by omega) hs9⟩ dL_law_32 (fun V9 r9 u H locs hR hP hD hS => ?_)
  have hP : va_P G vwCl (fl [OW cy a V9 u]) H := hP
  have hD : va_D A (fl [OW cy a V9 u]) := hD
  obtain ⟨e1, e2⟩ := hR
  rw [e1] at hP hD
  rw [e2]
  refine W.widen (show _ ≤ cells + 600 by omega) (show _ ≤ slots + 64 * 600 by omega) ?_
  refine lv_if_eq (tgt := 57) hx hb dL_law_35 (by decide) (fun c9 => absurd c9 (by decide)) (fun _ => ?_)
  refine lv_aload_n hx hb dL_law_38 rfl (lv_at hl 0 rfl) ?_
  refine lw_S S9 hLF (n_texts l G cy kS vS a V 20000 hl9 hG.1 hE hn16) (bigS 1 htL (big_at 29 10 rfl) (big_at 0 2 rfl) (big_at 29 12 rfl) (big_at 29 11 rfl) rfl rfl (by decide +kernel) ⟨Nat.le_of_ble_eq_true rfl, Nat.le_of_ble_eq_true rfl⟩) hP hD hS hA rfl hl.1 rfl (Nat.le_of_ble_eq_true rfl) ⟨Nat.le_trans (show cells + 600 + 275 ≤ 9000 by omega) hc9, Nat.le_trans (show slots + 64 * 600 + 64 * 275 ≤ 64 * 9000 by omega) hs9⟩ dL_law_39 (fun V9 r9 u H locs hR hP hD hS => ?_)
  have hP : va_P G vwCl (fl [OW cy a V9 u]) H := hP
  have hD : va_D A (fl [OW cy a V9 u]) := hD
  obtain ⟨⟨h1, h2, h3, h4, h5, h6⟩, e2⟩ := hR
  rw [e2]
  have hG2 : GV 20000 V9 := ⟨by rw [h1]; exact hG.1, by rw [h3]; exact hG.2.1, by rw [h4]; exact hG.2.2.1, by rw [h5]; exact hG.2.2.2.1, by rw [h6]; exact hG.2.2.2.2.1, by rw [h2]; exact hG.2.2.2.2.2⟩
  refine W.widen (show _ ≤ cells + 875 by omega) (show _ ≤ slots + 64 * 875 by omega) ?_
  refine lv_if_eq (tgt := 57) hx hb dL_law_42 (by decide) (fun c9 => absurd c9 (by decide)) (fun _ => ?_)
  refine lv_aload_n hx hb dL_law_45 rfl (lv_at hl 1 rfl) ?_
  refine lv_aload_n hx hb dL_law_46 rfl (lv_at hl 0 rfl) ?_
  refine lw_SZ S9 hLF (n_undone l G cy kS vS a V9 b L xs 20000 hl9 hG2 (by omega)) (bigS 2 htL (big_at 45 13 rfl) (big_at 0 2 rfl) (big_at 45 15 rfl) (big_at 45 14 rfl) rfl rfl (by decide +kernel) ⟨Nat.le_of_ble_eq_true rfl, Nat.le_of_ble_eq_true rfl⟩) hX hbl hbA hL hP hD hS hA rfl hl.1 rfl (Nat.le_of_ble_eq_true rfl) ⟨Nat.le_trans (show cells + 875 + 1700 ≤ 9000 by omega) hc9, Nat.le_trans (show slots + 64 * 875 + 64 * 1700 ≤ 64 * 9000 by omega) hs9⟩ dL_law_47 (fun V9 r9 u H locs hR hP hD hS => ?_)
  have hP : va_P G vwCl (fl [OW cy a V9 u]) H := hP
  have hD : va_D A (fl [OW cy a V9 u]) := hD
  have e2 : r9 = .int 1 := hR
  rw [e2]
  refine W.widen (show _ ≤ cells + 2575 by omega) (show _ ≤ slots + 64 * 2575 by omega) ?_
  refine lv_if_eq (tgt := 57) hx hb dL_law_50 (by decide) (fun c9 => absurd c9 (by decide)) (fun _ => ?_)
  refine va_forget (fun q hq => hA3 _ (hS.2.2 q hq)) ?_
  refine W.widen (k := 750220) (n := 6841709) (by omega) (by omega) ?_
  refine lv_iconst (v := 1) hx hb dL_law_53 (by decide) ?_
  refine lv_goto (tgt := 58) hx hb dL_law_54 (by decide) ?_
  refine W.base ?_
  exact lw_ret (Drawn.sameBut.refl s.drawn lw_cs) hx hb0 hr hlocks dL_law_58
