/-! a text that is written and run -/
set_option maxRecDepth 100000 in
set_option maxHeartbeats 6000000 in
theorem u_text (l : Launch) (G : va_G) (cy : Nat → ClassId) (kS vS : Nat → Nat) (a : OA) (V : OV) (u0 : OU) (b : Nat) (hl9 : l.stackTraces = false) (p : Program) (e : Env) (s : State) (m : MethodId) (below : List Frame) (meth : Method) (cq : Code) (S9 : CallFix p m cq cL_undone 8 s ([.ref b, .ref a.aX] : List Value).toArray wsL_law RL) (hLF : LF G cy kS vS (va_A (OW cy a V u0) s.heap.size) s) (hA : ∀ q, s.heap.size ≤ q → (va_A (OW cy a V u0) s.heap.size) q) (V1 : OV) (N2 : Nat) (hn2 : N2 + 2000 < 2147483648) (hG1 : GV N2 V1) (q : Nat) (g2 : Nat → Int64) (C1 dn k D : Nat) (hC1 : C1 < 2147483648) (Q : State → Prop) (J330 : ∀ (V3 : OV) (r : Int32) (u : OU) (H : Heap) (locs : List Loc) (cells slots : Nat), (SR N2 V1 False (fun _ => True) V3 (.int r)) → cells + (D) ≤ 1700 → slots + 64 * (D) ≤ 64 * 1700 → va_P G vwCl (fl [OW cy a V3 u, [(q, .inl (cy 5, 9, .inr (.inl g2)))]]) H → va_D (va_A (OW cy a V u0) s.heap.size) (fl [OW cy a V3 u, [(q, .inl (cy 5, 9, .inr (.inl g2)))]]) → va_S (va_A (OW cy a V u0) s.heap.size) s.heap H locs → ∀ ls : Array Slot, lv_has ls 8 [(7, .int r), (4, .int (nI k)), (3, .int (nI dn)), (2, .ref q), (1, .ref a.aX), (0, .ref b)] → W p l e ({ frames := 15, cells := 1700, slots := 64 * 1700, locals := 500 } : Room) s m ([.ref b, .ref a.aX] : List Value).toArray below meth cq H locs cells slots (Q) (F0 m 330 ls [])) : ∀ (u : OU) (H : Heap) (locs : List Loc) (cells slots : Nat), cells + (D + 85) ≤ 1700 → slots + 64 * (D + 85) ≤ 64 * 1700 → va_P G vwCl (fl [OW cy a V1 u, [(q, .inl (cy 5, 9, .inr (.inl g2)))]]) H → va_D (va_A (OW cy a V u0) s.heap.size) (fl [OW cy a V1 u, [(q, .inl (cy 5, 9, .inr (.inl g2)))]]) → va_S (va_A (OW cy a V u0) s.heap.size) s.heap H locs → ∀ ls : Array Slot, lv_has ls 8 [(6, .int (nI (C1 / 16))), (5, .int (nI C1)), (4, .int (nI k)), (3, .int (nI dn)), (2, .ref q), (1, .ref a.aX), (0, .ref b)] → W p l e ({ frames := 15, cells := 1700, slots := 64 * 1700, locals := 500 } : Room) s m ([.ref b, .ref a.aX] : List Value).toArray below meth cq H locs cells slots (Q) (F0 m 261 ls []) := by
  intro u H locs cells slots hc hs hP hD hS ls hl
  obtain ⟨hx, hb, hml, hown, hts⟩ := id S9
  have hK := hLF.1
  have hSK := hLF.2.2.2.1
  have hDZ := hLF.2.2.2.2.1
  refine lv_aload_n hx hb dL_undone_261 rfl (lv_at hl 5 rfl) ?_
  refine va_new (ci := 1) (fs := [.null, .int 0, .int 0, .int 0]) (C := RJ4) (T := TJ4) (N := 4) hx hb hts hi_J4 tyJ4 tyJ4_ok hown (hts _ (big_at 29 13 rfl)) (hts _ (big_at 1 7 rfl)) (hts _ (big_at 1 8 rfl)) hK.1 hP hD hS hA rfl (fun j hj => by rcases (show j = 0 ∨ j = 1 ∨ j = 2 ∨ j = 3 by omega) with rfl | rfl | rfl | rfl <;> rfl) (show _ ≤ 1700 by omega) (show _ ≤ 64 * 1700 by omega) dL_undone_262 (fun sb85 H hP hD hS => ?_)
  refine lv_dup hx hb dL_undone_265 rfl ?_
  have hFw := free_of hD hS hA
  refine lg_run (Wr := [OW cy a V1 u, [(q, .inl (cy 5, 9, .inr (.inl g2)))]]) (va_runI S9 ((GR.ofNW (c_J4_init_da8c8 l G cy sb85) sub_J4_init_da8c8) _) (bigI 0 hts (big_at 29 14 rfl) (big_at 1 8 rfl) (big_at 4 15 rfl) (big_at 4 14 rfl) rfl rfl rfl (by decide +kernel) ⟨Nat.le_of_ble_eq_true rfl, Nat.le_of_ble_eq_true rfl⟩) ⟨fun b2 U g mk q => ⟨q.1, q.2.1, PN.blind U g mk b2 q.2.2.1, q.2.2.2⟩, fun U hU hW => ⟨rfl, (congrArg Array.size hU), PN.at hK hLF.2.2.2.2.2.2 hSK.2.2.1 hS hFw (strip_P hP) U hU hW, (strip_D hD).weaken (fun _ _ _ _ => trivial)⟩⟩ (g := F0 m _ ls _) rfl rfl hl.1 rfl (lv_room (Nat.le_of_ble_eq_true rfl)) dL_undone_266 ⟨(show _ ≤ 1700 by omega), (show _ ≤ 64 * 1700 by omega)⟩) hP hD hS hA (MC := 1700) (D + 83) 1 (by decide) (by decide) (by omega) (by omega) (fun v86 H locs cells slots _ hc hs hP hD hS => ?_)
  have hP : va_P G vwCl (fl [OW cy a V1 u, [(q, .inl (cy 5, 9, .inr (.inl g2)))], sbW cy sb85 (v86 1) 16 0 ([] : List Int32).length (fun _ => 0)]) H := hP
  have hD : va_D (va_A (OW cy a V u0) s.heap.size) (fl [OW cy a V1 u, [(q, .inl (cy 5, 9, .inr (.inl g2)))], sbW cy sb85 (v86 1) 16 0 ([] : List Int32).length (fun _ => 0)]) := hD
  refine va_ldcSw hx hb hown (hSK.2.1 16 (by decide)) dL_undone_269 ?_
  have hP : va_P G vwCl (fl [OW cy a V1 u, [(q, .inl (cy 5, 9, .inr (.inl g2)))]] ++ sbW cy sb85 (v86 1) 16 0 ([] : List Int32).length (fun _ => 0)) H := by rw [fl_snoc]; exact hP
  have hD : va_D (va_A (OW cy a V u0) s.heap.size) (fl [OW cy a V1 u, [(q, .inl (cy 5, 9, .inr (.inl g2)))]] ++ sbW cy sb85 (v86 1) 16 0 ([] : List Int32).length (fun _ => 0)) := by rw [fl_snoc]; exact hD
  have hFw := free_of hD hS hA
  refine lg_run (Wr := [OW cy a V1 u, [(q, .inl (cy 5, 9, .inr (.inl g2)))]]) (va_runV S9 ((s_appS l G cy kS vS sb85 (v86 1) 0 ([] : List Int32) (fun _ => 0) 16 (ltS 16) (kS 16) (vS 16) (by decide) (by unfold FB; decide) BTx.nil (by have h1 := (List.length_nil : ([] : List Int32).length = 0); have h2 : (ltS 16).length = 5 := (by decide); omega)) _) (bigV 1 hts (big_at 33 9 rfl) (big_at 1 8 rfl) (big_at 33 12 rfl) (big_at 33 10 rfl) (big_at 33 11 rfl) rfl rfl (by decide +kernel) ⟨Nat.le_of_ble_eq_true rfl, Nat.le_of_ble_eq_true rfl⟩) ⟨fun b2 U g mk q => ⟨q.1, q.2.1, PTx.blind U g mk b2 q.2.2.1, q.2.2.2⟩, va_recv (ci := 1) (q0 := 0) hK.1 (strip_P hP) rfl rfl, fun U hU hW => ⟨rfl, (congrArg Array.size hU), PTx.at (strI.kept9 (hSK.1.1 16 (by decide)) hS hFw) hSK hDZ hS hFw hK (strip_P hP) U hU hW, (strip_D hD).weaken (fun _ _ _ _ => trivial)⟩⟩ (g := F0 m _ ls _) rfl rfl hl.1 rfl (lv_room (Nat.le_of_ble_eq_true rfl)) dL_undone_272 ⟨(show _ ≤ 1700 by omega), (show _ ≤ 64 * 1700 by omega)⟩) hP hD hS hA (MC := 1700) (D + 82) 1 (by decide) (by decide) (by omega) (by omega) (fun w9 H locs cells slots hu hc hs hP hD hS => ?_)
  obtain ⟨vb87, mm88, f89⟩ := w9
  obtain ⟨hB90, e9⟩ := hu
  have e9 : mm88 = 16 := e9 rfl (by have h1 := (List.length_nil : ([] : List Int32).length = 0); have h2 : (ltS 16).length = 5 := (by decide); omega)
  subst e9
  have hP : va_P G vwCl (fl [OW cy a V1 u, [(q, .inl (cy 5, 9, .inr (.inl g2)))], sbW cy sb85 vb87 16 0 (([] : List Int32) ++ ltS 16).length f89]) H := hP
  have hD : va_D (va_A (OW cy a V u0) s.heap.size) (fl [OW cy a V1 u, [(q, .inl (cy 5, 9, .inr (.inl g2)))], sbW cy sb85 vb87 16 0 (([] : List Int32) ++ ltS 16).length f89]) := hD
  have hl91 : (([] : List Int32) ++ ltS 16).length = 5 := by have h1 := (List.length_nil : ([] : List Int32).length = 0); have h2 := (show (ltS 16).length = 5 from by decide); rw [List.length_append]; omega
  have hc92 : ∀ c ∈ (([] : List Int32) ++ ltS 16), TxOK c := tx_app tx_nil tx_lit.1
  obtain ⟨t93, qt93⟩ : ∃ z : List Int32, z = (([] : List Int32) ++ ltS 16) := ⟨_, rfl⟩
  rw [← qt93] at hP hD hB90 hl91 hc92
  refine lv_iload hx hb dL_undone_275 (lv_at hl 0 rfl) ?_
  refine lv_bipush (v := 6) hx hb dL_undone_277 (by decide) ?_
  refine lv_irem hx hb dL_undone_279 (by decide) ?_
  refine lv_t0 (show ((nI (C1 / 16)) - (nI (C1 / 16)) / 6 * 6) = nI ((C1 / 16) % 6) from rem_n (by omega) (by decide) (by decide)) ?_
  have hP : va_P G vwCl (fl [OW cy a V1 u, [(q, .inl (cy 5, 9, .inr (.inl g2)))]] ++ sbW cy sb85 vb87 16 0 t93.length f89) H := by rw [fl_snoc]; exact hP
  have hD : va_D (va_A (OW cy a V u0) s.heap.size) (fl [OW cy a V1 u, [(q, .inl (cy 5, 9, .inr (.inl g2)))]] ++ sbW cy sb85 vb87 16 0 t93.length f89) := by rw [fl_snoc]; exact hD
  have hFw := free_of hD hS hA
  refine lg_run (Wr := [OW cy a V1 u, [(q, .inl (cy 5, 9, .inr (.inl g2)))]]) (va_runV S9 ((z_app1 l G cy kS vS sb85 vb87 0 t93 f89 (C1 / 16 % 6) hB90 (by omega) (by have h1 := hl91; omega)) _) (bigV 1 hts (big_at 29 15 rfl) (big_at 1 8 rfl) (big_at 29 18 rfl) (big_at 29 16 rfl) (big_at 29 17 rfl) rfl rfl (by decide +kernel) ⟨Nat.le_of_ble_eq_true rfl, Nat.le_of_ble_eq_true rfl⟩) ⟨fun b2 U g mk q => ⟨q.1, q.2.1, PJ.blind U g mk b2 q.2.2.1, q.2.2.2⟩, va_recv (ci := 1) (q0 := 0) hK.1 (strip_P hP) rfl rfl, fun U hU hW => ⟨rfl, (congrArg Array.size hU), PJ.at hSK hDZ hS hFw hK (strip_P hP) U hU hW, (strip_D hD).weaken (fun _ _ _ _ => trivial)⟩⟩ (g := F0 m _ ls _) rfl rfl hl.1 rfl (lv_room (Nat.le_of_ble_eq_true rfl)) dL_undone_280 ⟨(show _ ≤ 1700 by omega), (show _ ≤ 64 * 1700 by omega)⟩) hP hD hS hA (MC := 1700) (D + 81) 1 (by decide) (by decide) (by omega) (by omega) (fun w9 H locs cells slots hu hc hs hP hD hS => ?_)
  obtain ⟨vb94, mm95, f96⟩ := w9
  obtain ⟨hB97, e9⟩ := hu
  have e9 : mm95 = 16 := e9
  subst e9
  have hP : va_P G vwCl (fl [OW cy a V1 u, [(q, .inl (cy 5, 9, .inr (.inl g2)))], sbW cy sb85 vb94 16 0 (t93 ++ dgs (C1 / 16 % 6)).length f96]) H := hP
  have hD : va_D (va_A (OW cy a V u0) s.heap.size) (fl [OW cy a V1 u, [(q, .inl (cy 5, 9, .inr (.inl g2)))], sbW cy sb85 vb94 16 0 (t93 ++ dgs (C1 / 16 % 6)).length f96]) := hD
  have hl98 : (t93 ++ dgs (C1 / 16 % 6)).length = 6 := by have h1 := hl91; have h2 := (dgs_1 (k := C1 / 16 % 6) (by omega)); rw [List.length_append]; omega
  have hc99 : ∀ c ∈ (t93 ++ dgs (C1 / 16 % 6)), TxOK c := tx_app hc92 (tx_dgs _ (by omega))
  obtain ⟨t100, qt100⟩ : ∃ z : List Int32, z = (t93 ++ dgs (C1 / 16 % 6)) := ⟨_, rfl⟩
  rw [← qt100] at hP hD hB97 hl98 hc99
  refine va_ldcSw hx hb hown (hSK.2.1 17 (by decide)) dL_undone_283 ?_
  have hP : va_P G vwCl (fl [OW cy a V1 u, [(q, .inl (cy 5, 9, .inr (.inl g2)))]] ++ sbW cy sb85 vb94 16 0 t100.length f96) H := by rw [fl_snoc]; exact hP
  have hD : va_D (va_A (OW cy a V u0) s.heap.size) (fl [OW cy a V1 u, [(q, .inl (cy 5, 9, .inr (.inl g2)))]] ++ sbW cy sb85 vb94 16 0 t100.length f96) := by rw [fl_snoc]; exact hD
  have hFw := free_of hD hS hA
  refine lg_run (Wr := [OW cy a V1 u, [(q, .inl (cy 5, 9, .inr (.inl g2)))]]) (va_runV S9 ((s_appS l G cy kS vS sb85 vb94 0 t100 f96 16 (ltS 17) (kS 17) (vS 17) (by decide) (by unfold FB; decide) hB97 (by have h1 := hl98; have h2 : (ltS 17).length = 5 := (by decide); omega)) _) (bigV 1 hts (big_at 33 9 rfl) (big_at 1 8 rfl) (big_at 33 12 rfl) (big_at 33 10 rfl) (big_at 33 11 rfl) rfl rfl (by decide +kernel) ⟨Nat.le_of_ble_eq_true rfl, Nat.le_of_ble_eq_true rfl⟩) ⟨fun b2 U g mk q => ⟨q.1, q.2.1, PTx.blind U g mk b2 q.2.2.1, q.2.2.2⟩, va_recv (ci := 1) (q0 := 0) hK.1 (strip_P hP) rfl rfl, fun U hU hW => ⟨rfl, (congrArg Array.size hU), PTx.at (strI.kept9 (hSK.1.1 17 (by decide)) hS hFw) hSK hDZ hS hFw hK (strip_P hP) U hU hW, (strip_D hD).weaken (fun _ _ _ _ => trivial)⟩⟩ (g := F0 m _ ls _) rfl rfl hl.1 rfl (lv_room (Nat.le_of_ble_eq_true rfl)) dL_undone_286 ⟨(show _ ≤ 1700 by omega), (show _ ≤ 64 * 1700 by omega)⟩) hP hD hS hA (MC := 1700) (D + 80) 1 (by decide) (by decide) (by omega) (by omega) (fun w9 H locs cells slots hu hc hs hP hD hS => ?_)
  obtain ⟨vb101, mm102, f103⟩ := w9
  obtain ⟨hB104, e9⟩ := hu
  have e9 : mm102 = 16 := e9 rfl (by have h1 := hl98; have h2 : (ltS 17).length = 5 := (by decide); omega)
  subst e9
  have hP : va_P G vwCl (fl [OW cy a V1 u, [(q, .inl (cy 5, 9, .inr (.inl g2)))], sbW cy sb85 vb101 16 0 (t100 ++ ltS 17).length f103]) H := hP
  have hD : va_D (va_A (OW cy a V u0) s.heap.size) (fl [OW cy a V1 u, [(q, .inl (cy 5, 9, .inr (.inl g2)))], sbW cy sb85 vb101 16 0 (t100 ++ ltS 17).length f103]) := hD
  have hl105 : (t100 ++ ltS 17).length = 11 := by have h1 := hl98; have h2 := (show (ltS 17).length = 5 from by decide); rw [List.length_append]; omega
  have hc106 : ∀ c ∈ (t100 ++ ltS 17), TxOK c := tx_app hc99 tx_lit.2.1
  obtain ⟨t107, qt107⟩ : ∃ z : List Int32, z = (t100 ++ ltS 17) := ⟨_, rfl⟩
  rw [← qt107] at hP hD hB104 hl105 hc106
  refine lv_iload hx hb dL_undone_289 (lv_at hl 0 rfl) ?_
  refine lv_iconst (v := 3) hx hb dL_undone_291 (by decide) ?_
  refine lv_iushr (v := nI ((C1 / 16) / 8)) hx hb dL_undone_292 (pk_ushrN (by omega) _ 3 (by decide)) ?_
  refine lv_bipush (v := 6) hx hb dL_undone_293 (by decide) ?_
  refine lv_irem hx hb dL_undone_295 (by decide) ?_
  refine lv_t0 (show ((nI ((C1 / 16) / 8)) - (nI ((C1 / 16) / 8)) / 6 * 6) = nI (((C1 / 16) / 8) % 6) from rem_n (by omega) (by decide) (by decide)) ?_
  have hP : va_P G vwCl (fl [OW cy a V1 u, [(q, .inl (cy 5, 9, .inr (.inl g2)))]] ++ sbW cy sb85 vb101 16 0 t107.length f103) H := by rw [fl_snoc]; exact hP
  have hD : va_D (va_A (OW cy a V u0) s.heap.size) (fl [OW cy a V1 u, [(q, .inl (cy 5, 9, .inr (.inl g2)))]] ++ sbW cy sb85 vb101 16 0 t107.length f103) := by rw [fl_snoc]; exact hD
  have hFw := free_of hD hS hA
  refine lg_run (Wr := [OW cy a V1 u, [(q, .inl (cy 5, 9, .inr (.inl g2)))]]) (va_runV S9 ((z_app1 l G cy kS vS sb85 vb101 0 t107 f103 (C1 / 16 / 8 % 6) hB104 (by omega) (by have h1 := hl105; omega)) _) (bigV 1 hts (big_at 29 15 rfl) (big_at 1 8 rfl) (big_at 29 18 rfl) (big_at 29 16 rfl) (big_at 29 17 rfl) rfl rfl (by decide +kernel) ⟨Nat.le_of_ble_eq_true rfl, Nat.le_of_ble_eq_true rfl⟩) ⟨fun b2 U g mk q => ⟨q.1, q.2.1, PJ.blind U g mk b2 q.2.2.1, q.2.2.2⟩, va_recv (ci := 1) (q0 := 0) hK.1 (strip_P hP) rfl rfl, fun U hU hW => ⟨rfl, (congrArg Array.size hU), PJ.at hSK hDZ hS hFw hK (strip_P hP) U hU hW, (strip_D hD).weaken (fun _ _ _ _ => trivial)⟩⟩ (g := F0 m _ ls _) rfl rfl hl.1 rfl (lv_room (Nat.le_of_ble_eq_true rfl)) dL_undone_296 ⟨(show _ ≤ 1700 by omega), (show _ ≤ 64 * 1700 by omega)⟩) hP hD hS hA (MC := 1700) (D + 79) 1 (by decide) (by decide) (by omega) (by omega) (fun w9 H locs cells slots hu hc hs hP hD hS => ?_)
  obtain ⟨vb108, mm109, f110⟩ := w9
  obtain ⟨hB111, e9⟩ := hu
  have e9 : mm109 = 16 := e9
  subst e9
  have hP : va_P G vwCl (fl [OW cy a V1 u, [(q, .inl (cy 5, 9, .inr (.inl g2)))], sbW cy sb85 vb108 16 0 (t107 ++ dgs (C1 / 16 / 8 % 6)).length f110]) H := hP
  have hD : va_D (va_A (OW cy a V u0) s.heap.size) (fl [OW cy a V1 u, [(q, .inl (cy 5, 9, .inr (.inl g2)))], sbW cy sb85 vb108 16 0 (t107 ++ dgs (C1 / 16 / 8 % 6)).length f110]) := hD
  have hl112 : (t107 ++ dgs (C1 / 16 / 8 % 6)).length = 12 := by have h1 := hl105; have h2 := (dgs_1 (k := C1 / 16 / 8 % 6) (by omega)); rw [List.length_append]; omega
  have hc113 : ∀ c ∈ (t107 ++ dgs (C1 / 16 / 8 % 6)), TxOK c := tx_app hc106 (tx_dgs _ (by omega))
  obtain ⟨t114, qt114⟩ : ∃ z : List Int32, z = (t107 ++ dgs (C1 / 16 / 8 % 6)) := ⟨_, rfl⟩
  rw [← qt114] at hP hD hB111 hl112 hc113
  refine va_ldcSw hx hb hown (hSK.2.1 18 (by decide)) dL_undone_299 ?_
  have hP : va_P G vwCl (fl [OW cy a V1 u, [(q, .inl (cy 5, 9, .inr (.inl g2)))]] ++ sbW cy sb85 vb108 16 0 t114.length f110) H := by rw [fl_snoc]; exact hP
  have hD : va_D (va_A (OW cy a V u0) s.heap.size) (fl [OW cy a V1 u, [(q, .inl (cy 5, 9, .inr (.inl g2)))]] ++ sbW cy sb85 vb108 16 0 t114.length f110) := by rw [fl_snoc]; exact hD
  have hFw := free_of hD hS hA
  refine lg_run (Wr := [OW cy a V1 u, [(q, .inl (cy 5, 9, .inr (.inl g2)))]]) (va_runV S9 ((s_appS l G cy kS vS sb85 vb108 0 t114 f110 16 (ltS 18) (kS 18) (vS 18) (by decide) (by unfold FB; decide) hB111 (by have h1 := hl112; have h2 : (ltS 18).length = 3 := (by decide); omega)) _) (bigV 1 hts (big_at 33 9 rfl) (big_at 1 8 rfl) (big_at 33 12 rfl) (big_at 33 10 rfl) (big_at 33 11 rfl) rfl rfl (by decide +kernel) ⟨Nat.le_of_ble_eq_true rfl, Nat.le_of_ble_eq_true rfl⟩) ⟨fun b2 U g mk q => ⟨q.1, q.2.1, PTx.blind U g mk b2 q.2.2.1, q.2.2.2⟩, va_recv (ci := 1) (q0 := 0) hK.1 (strip_P hP) rfl rfl, fun U hU hW => ⟨rfl, (congrArg Array.size hU), PTx.at (strI.kept9 (hSK.1.1 18 (by decide)) hS hFw) hSK hDZ hS hFw hK (strip_P hP) U hU hW, (strip_D hD).weaken (fun _ _ _ _ => trivial)⟩⟩ (g := F0 m _ ls _) rfl rfl hl.1 rfl (lv_room (Nat.le_of_ble_eq_true rfl)) dL_undone_302 ⟨(show _ ≤ 1700 by omega), (show _ ≤ 64 * 1700 by omega)⟩) hP hD hS hA (MC := 1700) (D + 78) 1 (by decide) (by decide) (by omega) (by omega) (fun w9 H locs cells slots hu hc hs hP hD hS => ?_)
  obtain ⟨vb115, mm116, f117⟩ := w9
  obtain ⟨hB118, e9⟩ := hu
  have e9 : mm116 = 16 := e9 rfl (by have h1 := hl112; have h2 : (ltS 18).length = 3 := (by decide); omega)
  subst e9
  have hP : va_P G vwCl (fl [OW cy a V1 u, [(q, .inl (cy 5, 9, .inr (.inl g2)))], sbW cy sb85 vb115 16 0 (t114 ++ ltS 18).length f117]) H := hP
  have hD : va_D (va_A (OW cy a V u0) s.heap.size) (fl [OW cy a V1 u, [(q, .inl (cy 5, 9, .inr (.inl g2)))], sbW cy sb85 vb115 16 0 (t114 ++ ltS 18).length f117]) := hD
  have hl119 : (t114 ++ ltS 18).length = 15 := by have h1 := hl112; have h2 := (show (ltS 18).length = 3 from by decide); rw [List.length_append]; omega
  have hc120 : ∀ c ∈ (t114 ++ ltS 18), TxOK c := tx_app hc113 tx_lit.2.2.1
  obtain ⟨t121, qt121⟩ : ∃ z : List Int32, z = (t114 ++ ltS 18) := ⟨_, rfl⟩
  rw [← qt121] at hP hD hB118 hl119 hc120
  refine lv_iload hx hb dL_undone_305 (lv_at hl 0 rfl) ?_
  refine lv_bipush (v := 6) hx hb dL_undone_307 (by decide) ?_
  refine lv_iushr (v := nI ((C1 / 16) / 64)) hx hb dL_undone_309 (pk_ushrN (by omega) _ 6 (by decide)) ?_
  refine lv_bipush (v := 21) hx hb dL_undone_310 (by decide) ?_
  refine lv_irem hx hb dL_undone_312 (by decide) ?_
  refine lv_t0 (show ((nI ((C1 / 16) / 64)) - (nI ((C1 / 16) / 64)) / 21 * 21) = nI (((C1 / 16) / 64) % 21) from rem_n (by omega) (by decide) (by decide)) ?_
  by_cases c10 : C1 / 16 / 64 % 21 < 10
  · have hP : va_P G vwCl (fl [OW cy a V1 u, [(q, .inl (cy 5, 9, .inr (.inl g2)))]] ++ sbW cy sb85 vb115 16 0 t121.length f117) H := by rw [fl_snoc]; exact hP
    have hD : va_D (va_A (OW cy a V u0) s.heap.size) (fl [OW cy a V1 u, [(q, .inl (cy 5, 9, .inr (.inl g2)))]] ++ sbW cy sb85 vb115 16 0 t121.length f117) := by rw [fl_snoc]; exact hD
    have hFw := free_of hD hS hA
    refine lg_run (Wr := [OW cy a V1 u, [(q, .inl (cy 5, 9, .inr (.inl g2)))]]) (va_runV S9 ((z_app1 l G cy kS vS sb85 vb115 0 t121 f117 (C1 / 16 / 64 % 21) hB118 c10 (by have h1 := hl119; omega)) _) (bigV 1 hts (big_at 29 15 rfl) (big_at 1 8 rfl) (big_at 29 18 rfl) (big_at 29 16 rfl) (big_at 29 17 rfl) rfl rfl (by decide +kernel) ⟨Nat.le_of_ble_eq_true rfl, Nat.le_of_ble_eq_true rfl⟩) ⟨fun b2 U g mk q => ⟨q.1, q.2.1, PJ.blind U g mk b2 q.2.2.1, q.2.2.2⟩, va_recv (ci := 1) (q0 := 0) hK.1 (strip_P hP) rfl rfl, fun U hU hW => ⟨rfl, (congrArg Array.size hU), PJ.at hSK hDZ hS hFw hK (strip_P hP) U hU hW, (strip_D hD).weaken (fun _ _ _ _ => trivial)⟩⟩ (g := F0 m _ ls _) rfl rfl hl.1 rfl (lv_room (Nat.le_of_ble_eq_true rfl)) dL_undone_313 ⟨(show _ ≤ 1700 by omega), (show _ ≤ 64 * 1700 by omega)⟩) hP hD hS hA (MC := 1700) (D + 77) 1 (by decide) (by decide) (by omega) (by omega) (fun w9 H locs cells slots hu hc hs hP hD hS => ?_)
    obtain ⟨vb122, mm123, f124⟩ := w9
    obtain ⟨hB125, e9⟩ := hu
    have e9 : mm123 = 16 := e9
    subst e9
    have hP : va_P G vwCl (fl [OW cy a V1 u, [(q, .inl (cy 5, 9, .inr (.inl g2)))], sbW cy sb85 vb122 16 0 (t121 ++ dgs (C1 / 16 / 64 % 21)).length f124]) H := hP
    have hD : va_D (va_A (OW cy a V u0) s.heap.size) (fl [OW cy a V1 u, [(q, .inl (cy 5, 9, .inr (.inl g2)))], sbW cy sb85 vb122 16 0 (t121 ++ dgs (C1 / 16 / 64 % 21)).length f124]) := hD
    have hl126 : (t121 ++ dgs (C1 / 16 / 64 % 21)).length = 16 := by have h1 := hl119; have h2 := (dgs_1 (k := C1 / 16 / 64 % 21) c10); rw [List.length_append]; omega
    have hc127 : ∀ c ∈ (t121 ++ dgs (C1 / 16 / 64 % 21)), TxOK c := tx_app hc120 (tx_dgs _ (by omega))
    obtain ⟨t128, qt128⟩ : ∃ z : List Int32, z = (t121 ++ dgs (C1 / 16 / 64 % 21)) := ⟨_, rfl⟩
    rw [← qt128] at hP hD hB125 hl126 hc127
    refine va_ldcSw hx hb hown (hSK.2.1 19 (by decide)) dL_undone_316 ?_
    have hP : va_P G vwCl (fl [OW cy a V1 u, [(q, .inl (cy 5, 9, .inr (.inl g2)))]] ++ sbW cy sb85 vb122 16 0 t128.length f124) H := by rw [fl_snoc]; exact hP
    have hD : va_D (va_A (OW cy a V u0) s.heap.size) (fl [OW cy a V1 u, [(q, .inl (cy 5, 9, .inr (.inl g2)))]] ++ sbW cy sb85 vb122 16 0 t128.length f124) := by rw [fl_snoc]; exact hD
    have hFw := free_of hD hS hA
    refine lg_run (Wr := [OW cy a V1 u, [(q, .inl (cy 5, 9, .inr (.inl g2)))]]) (va_runV S9 ((s_appS l G cy kS vS sb85 vb122 0 t128 f124 16 (ltS 19) (kS 19) (vS 19) (by decide) (by unfold FB; decide) hB125 (by have h1 := hl126; have h2 : (ltS 19).length = 5 := (by decide); omega)) _) (bigV 1 hts (big_at 33 9 rfl) (big_at 1 8 rfl) (big_at 33 12 rfl) (big_at 33 10 rfl) (big_at 33 11 rfl) rfl rfl (by decide +kernel) ⟨Nat.le_of_ble_eq_true rfl, Nat.le_of_ble_eq_true rfl⟩) ⟨fun b2 U g mk q => ⟨q.1, q.2.1, PTx.blind U g mk b2 q.2.2.1, q.2.2.2⟩, va_recv (ci := 1) (q0 := 0) hK.1 (strip_P hP) rfl rfl, fun U hU hW => ⟨rfl, (congrArg Array.size hU), PTx.at (strI.kept9 (hSK.1.1 19 (by decide)) hS hFw) hSK hDZ hS hFw hK (strip_P hP) U hU hW, (strip_D hD).weaken (fun _ _ _ _ => trivial)⟩⟩ (g := F0 m _ ls _) rfl rfl hl.1 rfl (lv_room (Nat.le_of_ble_eq_true rfl)) dL_undone_319 ⟨(show _ ≤ 1700 by omega), (show _ ≤ 64 * 1700 by omega)⟩) hP hD hS hA (MC := 1700) (D + 76) 1 (by decide) (by decide) (by omega) (by omega) (fun w9 H locs cells slots hu hc hs hP hD hS => ?_)
    obtain ⟨vb129, mm130, f131⟩ := w9
    obtain ⟨hB132, e9⟩ := hu
    have hP : va_P G vwCl (fl [OW cy a V1 u, [(q, .inl (cy 5, 9, .inr (.inl g2)))], sbW cy sb85 vb129 mm130 0 (t128 ++ ltS 19).length f131]) H := hP
    have hD : va_D (va_A (OW cy a V u0) s.heap.size) (fl [OW cy a V1 u, [(q, .inl (cy 5, 9, .inr (.inl g2)))], sbW cy sb85 vb129 mm130 0 (t128 ++ ltS 19).length f131]) := hD
    have hl133 : (t128 ++ ltS 19).length = 21 := by have h1 := hl126; have h2 := (show (ltS 19).length = 5 from by decide); rw [List.length_append]; omega
    have hc134 : ∀ c ∈ (t128 ++ ltS 19), TxOK c := tx_app hc127 tx_lit.2.2.2
    obtain ⟨t135, qt135⟩ : ∃ z : List Int32, z = (t128 ++ ltS 19) := ⟨_, rfl⟩
    rw [← qt135] at hP hD hB132 hl133 hc134
    have hP : va_P G vwCl (fl [OW cy a V1 u, [(q, .inl (cy 5, 9, .inr (.inl g2)))]] ++ sbW cy sb85 vb129 mm130 0 t135.length f131) H := by rw [fl_snoc]; exact hP
    have hD : va_D (va_A (OW cy a V u0) s.heap.size) (fl [OW cy a V1 u, [(q, .inl (cy 5, 9, .inr (.inl g2)))]] ++ sbW cy sb85 vb129 mm130 0 t135.length f131) := by rw [fl_snoc]; exact hD
    have hFw := free_of hD hS hA
    refine lg_run (Wr := [OW cy a V1 u, [(q, .inl (cy 5, 9, .inr (.inl g2)))]]) (va_runV S9 ((s_toStr l G cy kS vS sb85 vb129 0 t135 f131 mm130 hB132 (bt_lt hB132 (by have h1 := hl133; omega) (by have h1 := hl133; omega))) _) (bigV 0 hts (big_at 36 2 rfl) (big_at 1 8 rfl) (big_at 36 5 rfl) (big_at 36 3 rfl) (big_at 36 4 rfl) rfl rfl (by decide +kernel) ⟨Nat.le_of_ble_eq_true rfl, Nat.le_of_ble_eq_true rfl⟩) ⟨fun b2 U g mk q => ⟨q.1, q.2.1, PJ.blind U g mk b2 q.2.2.1, q.2.2.2⟩, va_recv (ci := 1) (q0 := 0) hK.1 (strip_P hP) rfl rfl, fun U hU hW => ⟨rfl, (congrArg Array.size hU), PJ.at hSK hDZ hS hFw hK (strip_P hP) U hU hW, (strip_D hD).weaken (fun _ _ _ _ => trivial)⟩⟩ (g := F0 m _ ls _) rfl rfl hl.1 rfl (lv_room (Nat.le_of_ble_eq_true rfl)) dL_undone_322 ⟨(show _ ≤ 1700 by omega), (show _ ≤ 64 * 1700 by omega)⟩) hP hD hS hA (MC := 1700) (D + 74) 2 (by decide) (by decide) (by omega) (by omega) (fun w9 H locs cells slots hu hc hs hP hD hS => ?_)
    obtain ⟨x136, y137, g138⟩ := w9
    have hg139 := hu
    have hP : va_P G vwCl (fl ([OW cy a V1 u, [(q, .inl (cy 5, 9, .inr (.inl g2)))]] ++ [(sbW cy sb85 vb129 mm130 0 t135.length f131) ++ [(x136, .inr (0, [.ref y137, .int 0, .int 0, .int 0])), (y137, .inl (cy 0, t135.length, .inl g138))]])) H := hP
    have hD : va_D (va_A (OW cy a V u0) s.heap.size) (fl ([OW cy a V1 u, [(q, .inl (cy 5, 9, .inr (.inl g2)))]] ++ [(sbW cy sb85 vb129 mm130 0 t135.length f131) ++ [(x136, .inr (0, [.ref y137, .int 0, .int 0, .int 0])), (y137, .inl (cy 0, t135.length, .inl g138))]])) := hD
    rw [fl_two] at hP hD
    have hP : va_P G vwCl (fl [OW cy a V1 u, [(q, .inl (cy 5, 9, .inr (.inl g2)))], sbW cy sb85 vb129 mm130 0 t135.length f131, [(x136, .inr (0, [.ref y137, .int 0, .int 0, .int 0])), (y137, .inl (cy 0, t135.length, .inl g138))]]) H := hP
    have hD : va_D (va_A (OW cy a V u0) s.heap.size) (fl [OW cy a V1 u, [(q, .inl (cy 5, 9, .inr (.inl g2)))], sbW cy sb85 vb129 mm130 0 t135.length f131, [(x136, .inr (0, [.ref y137, .int 0, .int 0, .int 0])), (y137, .inl (cy 0, t135.length, .inl g138))]]) := hD
    have hP : va_P G vwCl (fl [OW cy a V1 u, [(q, .inl (cy 5, 9, .inr (.inl g2)))], [(x136, .inr (0, [.ref y137, .int 0, .int 0, .int 0])), (y137, .inl (cy 0, t135.length, .inl g138))]]) H := PpartC (Wc := [OW cy a V1 u, [(q, .inl (cy 5, 9, .inr (.inl g2)))], sbW cy sb85 vb129 mm130 0 t135.length f131, [(x136, .inr (0, [.ref y137, .int 0, .int 0, .int 0])), (y137, .inl (cy 0, t135.length, .inl g138))]]) hP [0, 1, 3] rfl
    have hD : va_D (va_A (OW cy a V u0) s.heap.size) (fl [OW cy a V1 u, [(q, .inl (cy 5, 9, .inr (.inl g2)))], [(x136, .inr (0, [.ref y137, .int 0, .int 0, .int 0])), (y137, .inl (cy 0, t135.length, .inl g138))]]) := DpartC (Wc := [OW cy a V1 u, [(q, .inl (cy 5, 9, .inr (.inl g2)))], sbW cy sb85 vb129 mm130 0 t135.length f131, [(x136, .inr (0, [.ref y137, .int 0, .int 0, .int 0])), (y137, .inl (cy 0, t135.length, .inl g138))]]) hD [0, 1, 3] (by decide) rfl
    have hP9 : va_P G vwCl (fl [[(x136, .inr (0, [.ref y137, .int 0, .int 0, .int 0])), (y137, .inl (cy 0, t135.length, .inl g138))]] ++ OW cy a V1 u) H := by rw [fl_snoc]; exact PpartC (Wc := [OW cy a V1 u, [(q, .inl (cy 5, 9, .inr (.inl g2)))], [(x136, .inr (0, [.ref y137, .int 0, .int 0, .int 0])), (y137, .inl (cy 0, t135.length, .inl g138))]]) hP [2, 0] rfl
    have hD9 : va_D (va_A (OW cy a V u0) s.heap.size) (fl [[(x136, .inr (0, [.ref y137, .int 0, .int 0, .int 0])), (y137, .inl (cy 0, t135.length, .inl g138))]] ++ OW cy a V1 u) := by rw [fl_snoc]; exact DpartC (Wc := [OW cy a V1 u, [(q, .inl (cy 5, 9, .inr (.inl g2)))], [(x136, .inr (0, [.ref y137, .int 0, .int 0, .int 0])), (y137, .inl (cy 0, t135.length, .inl g138))]]) hD [2, 0] (by decide) rfl
    have hT9 : strI t135.length t135 x136 y137 (va_A (OW cy a V1 u) H.size) s H := strI.ofC hts hK hP9 hD9 0 rfl (show t135.length = _ from rfl) (by rw [hl133]; decide) hg139
    refine ly_S S9 hLF (n_run l G cy kS vS a V1 t135 x136 y137 N2 hl9 hG1.1 (by omega) hG1.2.2.2.1 hG1.2.2.2.2.1 hG1.2.1 hG1.2.2.1 (by have h1 := hl133; omega) (fun i hi => hc134 _ (getD_mem hi))) (bigS 2 hts (big_at 47 18 rfl) (big_at 0 2 rfl) (big_at 47 20 rfl) (big_at 47 19 rfl) rfl rfl (by decide +kernel) ⟨Nat.le_of_ble_eq_true rfl, Nat.le_of_ble_eq_true rfl⟩) EX.blind (EX.at hT9) hP hD hS hA rfl hl.1 rfl (Nat.le_of_ble_eq_true rfl) (MC := 1700) ⟨rfl, rfl⟩ (D + 4) (by omega) (by omega) dL_undone_325 (fun V2 r2 u H locs cells slots hR hc hs hP hD hS => ?_)
    have hP : va_P G vwCl (fl [OW cy a V2 u, [(q, .inl (cy 5, 9, .inr (.inl g2)))], [(x136, .inr (0, [.ref y137, .int 0, .int 0, .int 0])), (y137, .inl (cy 0, t135.length, .inl g138))]]) H := hP
    have hD : va_D (va_A (OW cy a V u0) s.heap.size) (fl [OW cy a V2 u, [(q, .inl (cy 5, 9, .inr (.inl g2)))], [(x136, .inr (0, [.ref y137, .int 0, .int 0, .int 0])), (y137, .inl (cy 0, t135.length, .inl g138))]]) := hD
    obtain ⟨r, e2, hR9⟩ := SR.int (run_SR hG1 hR)
    subst e2
    have hP : va_P G vwCl (fl [OW cy a V2 u, [(q, .inl (cy 5, 9, .inr (.inl g2)))]]) H := PpartC (Wc := [OW cy a V2 u, [(q, .inl (cy 5, 9, .inr (.inl g2)))], [(x136, .inr (0, [.ref y137, .int 0, .int 0, .int 0])), (y137, .inl (cy 0, t135.length, .inl g138))]]) hP [0, 1] rfl
    have hD : va_D (va_A (OW cy a V u0) s.heap.size) (fl [OW cy a V2 u, [(q, .inl (cy 5, 9, .inr (.inl g2)))]]) := DpartC (Wc := [OW cy a V2 u, [(q, .inl (cy 5, 9, .inr (.inl g2)))], [(x136, .inr (0, [.ref y137, .int 0, .int 0, .int 0])), (y137, .inl (cy 0, t135.length, .inl g138))]]) hD [0, 1] (by decide) rfl
    refine lv_istore (lv' := [(7, .int r), (6, .int (nI (C1 / 16))), (5, .int (nI C1)), (4, .int (nI k)), (3, .int (nI dn)), (2, .ref q), (1, .ref a.aX), (0, .ref b)]) hx hb dL_undone_328 hl (by decide) rfl (fun ls hl => ?_)
    exact J330 V2 r _ _ _ _ _ hR9 (le_d0 hc) (le_d02 hs) hP hD hS ls (lv_sub hl [0, 3, 4, 5, 6, 7] rfl)
  · have hP : va_P G vwCl (fl [OW cy a V1 u, [(q, .inl (cy 5, 9, .inr (.inl g2)))]] ++ sbW cy sb85 vb115 16 0 t121.length f117) H := by rw [fl_snoc]; exact hP
    have hD : va_D (va_A (OW cy a V u0) s.heap.size) (fl [OW cy a V1 u, [(q, .inl (cy 5, 9, .inr (.inl g2)))]] ++ sbW cy sb85 vb115 16 0 t121.length f117) := by rw [fl_snoc]; exact hD
    have hFw := free_of hD hS hA
    refine lg_run (Wr := [OW cy a V1 u, [(q, .inl (cy 5, 9, .inr (.inl g2)))]]) (va_runV S9 ((s_appI l G cy kS vS sb85 vb115 0 t121 f117 (C1 / 16 / 64 % 21) hB118 (Nat.not_lt.mp c10) (by omega) hl119) _) (bigV 1 hts (big_at 29 15 rfl) (big_at 1 8 rfl) (big_at 29 18 rfl) (big_at 29 16 rfl) (big_at 29 17 rfl) rfl rfl (by decide +kernel) ⟨Nat.le_of_ble_eq_true rfl, Nat.le_of_ble_eq_true rfl⟩) ⟨fun b2 U g mk q => ⟨q.1, q.2.1, PJ.blind U g mk b2 q.2.2.1, q.2.2.2⟩, va_recv (ci := 1) (q0 := 0) hK.1 (strip_P hP) rfl rfl, fun U hU hW => ⟨rfl, (congrArg Array.size hU), PJ.at hSK hDZ hS hFw hK (strip_P hP) U hU hW, (strip_D hD).weaken (fun _ _ _ _ => trivial)⟩⟩ (g := F0 m _ ls _) rfl rfl hl.1 rfl (lv_room (Nat.le_of_ble_eq_true rfl)) dL_undone_313 ⟨(show _ ≤ 1700 by omega), (show _ ≤ 64 * 1700 by omega)⟩) hP hD hS hA (MC := 1700) (D + 77) 1 (by decide) (by decide) (by omega) (by omega) (fun w9 H locs cells slots hu hc hs hP hD hS => ?_)
    obtain ⟨vb140, mm141, f142⟩ := w9
    have hB143 := hu
    have hP : va_P G vwCl (fl [OW cy a V1 u, [(q, .inl (cy 5, 9, .inr (.inl g2)))], sbW cy sb85 vb140 mm141 0 (t121 ++ dgs (C1 / 16 / 64 % 21)).length f142]) H := hP
    have hD : va_D (va_A (OW cy a V u0) s.heap.size) (fl [OW cy a V1 u, [(q, .inl (cy 5, 9, .inr (.inl g2)))], sbW cy sb85 vb140 mm141 0 (t121 ++ dgs (C1 / 16 / 64 % 21)).length f142]) := hD
    have hl144 : (t121 ++ dgs (C1 / 16 / 64 % 21)).length = 17 := by have h1 := hl119; have h2 := (dgs_2 (k := C1 / 16 / 64 % 21) c10 (by omega)); rw [List.length_append]; omega
    have hc145 : ∀ c ∈ (t121 ++ dgs (C1 / 16 / 64 % 21)), TxOK c := tx_app hc120 (tx_dgs _ (by omega))
    obtain ⟨t146, qt146⟩ : ∃ z : List Int32, z = (t121 ++ dgs (C1 / 16 / 64 % 21)) := ⟨_, rfl⟩
    rw [← qt146] at hP hD hB143 hl144 hc145
    refine va_ldcSw hx hb hown (hSK.2.1 19 (by decide)) dL_undone_316 ?_
    have hP : va_P G vwCl (fl [OW cy a V1 u, [(q, .inl (cy 5, 9, .inr (.inl g2)))]] ++ sbW cy sb85 vb140 mm141 0 t146.length f142) H := by rw [fl_snoc]; exact hP
    have hD : va_D (va_A (OW cy a V u0) s.heap.size) (fl [OW cy a V1 u, [(q, .inl (cy 5, 9, .inr (.inl g2)))]] ++ sbW cy sb85 vb140 mm141 0 t146.length f142) := by rw [fl_snoc]; exact hD
    have hFw := free_of hD hS hA
    refine lg_run (Wr := [OW cy a V1 u, [(q, .inl (cy 5, 9, .inr (.inl g2)))]]) (va_runV S9 ((s_appS l G cy kS vS sb85 vb140 0 t146 f142 mm141 (ltS 19) (kS 19) (vS 19) (by decide) (by unfold FB; decide) hB143 (by have h1 := hl144; have h2 : (ltS 19).length = 5 := (by decide); omega)) _) (bigV 1 hts (big_at 33 9 rfl) (big_at 1 8 rfl) (big_at 33 12 rfl) (big_at 33 10 rfl) (big_at 33 11 rfl) rfl rfl (by decide +kernel) ⟨Nat.le_of_ble_eq_true rfl, Nat.le_of_ble_eq_true rfl⟩) ⟨fun b2 U g mk q => ⟨q.1, q.2.1, PTx.blind U g mk b2 q.2.2.1, q.2.2.2⟩, va_recv (ci := 1) (q0 := 0) hK.1 (strip_P hP) rfl rfl, fun U hU hW => ⟨rfl, (congrArg Array.size hU), PTx.at (strI.kept9 (hSK.1.1 19 (by decide)) hS hFw) hSK hDZ hS hFw hK (strip_P hP) U hU hW, (strip_D hD).weaken (fun _ _ _ _ => trivial)⟩⟩ (g := F0 m _ ls _) rfl rfl hl.1 rfl (lv_room (Nat.le_of_ble_eq_true rfl)) dL_undone_319 ⟨(show _ ≤ 1700 by omega), (show _ ≤ 64 * 1700 by omega)⟩) hP hD hS hA (MC := 1700) (D + 76) 1 (by decide) (by decide) (by omega) (by omega) (fun w9 H locs cells slots hu hc hs hP hD hS => ?_)
    obtain ⟨vb147, mm148, f149⟩ := w9
    obtain ⟨hB150, e9⟩ := hu
    have hP : va_P G vwCl (fl [OW cy a V1 u, [(q, .inl (cy 5, 9, .inr (.inl g2)))], sbW cy sb85 vb147 mm148 0 (t146 ++ ltS 19).length f149]) H := hP
    have hD : va_D (va_A (OW cy a V u0) s.heap.size) (fl [OW cy a V1 u, [(q, .inl (cy 5, 9, .inr (.inl g2)))], sbW cy sb85 vb147 mm148 0 (t146 ++ ltS 19).length f149]) := hD
    have hl151 : (t146 ++ ltS 19).length = 22 := by have h1 := hl144; have h2 := (show (ltS 19).length = 5 from by decide); rw [List.length_append]; omega
    have hc152 : ∀ c ∈ (t146 ++ ltS 19), TxOK c := tx_app hc145 tx_lit.2.2.2
    obtain ⟨t153, qt153⟩ : ∃ z : List Int32, z = (t146 ++ ltS 19) := ⟨_, rfl⟩
    rw [← qt153] at hP hD hB150 hl151 hc152
    have hP : va_P G vwCl (fl [OW cy a V1 u, [(q, .inl (cy 5, 9, .inr (.inl g2)))]] ++ sbW cy sb85 vb147 mm148 0 t153.length f149) H := by rw [fl_snoc]; exact hP
    have hD : va_D (va_A (OW cy a V u0) s.heap.size) (fl [OW cy a V1 u, [(q, .inl (cy 5, 9, .inr (.inl g2)))]] ++ sbW cy sb85 vb147 mm148 0 t153.length f149) := by rw [fl_snoc]; exact hD
    have hFw := free_of hD hS hA
    refine lg_run (Wr := [OW cy a V1 u, [(q, .inl (cy 5, 9, .inr (.inl g2)))]]) (va_runV S9 ((s_toStr l G cy kS vS sb85 vb147 0 t153 f149 mm148 hB150 (bt_lt hB150 (by have h1 := hl151; omega) (by have h1 := hl151; omega))) _) (bigV 0 hts (big_at 36 2 rfl) (big_at 1 8 rfl) (big_at 36 5 rfl) (big_at 36 3 rfl) (big_at 36 4 rfl) rfl rfl (by decide +kernel) ⟨Nat.le_of_ble_eq_true rfl, Nat.le_of_ble_eq_true rfl⟩) ⟨fun b2 U g mk q => ⟨q.1, q.2.1, PJ.blind U g mk b2 q.2.2.1, q.2.2.2⟩, va_recv (ci := 1) (q0 := 0) hK.1 (strip_P hP) rfl rfl, fun U hU hW => ⟨rfl, (congrArg Array.size hU), PJ.at hSK hDZ hS hFw hK (strip_P hP) U hU hW, (strip_D hD).weaken (fun _ _ _ _ => trivial)⟩⟩ (g := F0 m _ ls _) rfl rfl hl.1 rfl (lv_room (Nat.le_of_ble_eq_true rfl)) dL_undone_322 ⟨(show _ ≤ 1700 by omega), (show _ ≤ 64 * 1700 by omega)⟩) hP hD hS hA (MC := 1700) (D + 74) 2 (by decide) (by decide) (by omega) (by omega) (fun w9 H locs cells slots hu hc hs hP hD hS => ?_)
    obtain ⟨x154, y155, g156⟩ := w9
    have hg157 := hu
    have hP : va_P G vwCl (fl ([OW cy a V1 u, [(q, .inl (cy 5, 9, .inr (.inl g2)))]] ++ [(sbW cy sb85 vb147 mm148 0 t153.length f149) ++ [(x154, .inr (0, [.ref y155, .int 0, .int 0, .int 0])), (y155, .inl (cy 0, t153.length, .inl g156))]])) H := hP
    have hD : va_D (va_A (OW cy a V u0) s.heap.size) (fl ([OW cy a V1 u, [(q, .inl (cy 5, 9, .inr (.inl g2)))]] ++ [(sbW cy sb85 vb147 mm148 0 t153.length f149) ++ [(x154, .inr (0, [.ref y155, .int 0, .int 0, .int 0])), (y155, .inl (cy 0, t153.length, .inl g156))]])) := hD
    rw [fl_two] at hP hD
    have hP : va_P G vwCl (fl [OW cy a V1 u, [(q, .inl (cy 5, 9, .inr (.inl g2)))], sbW cy sb85 vb147 mm148 0 t153.length f149, [(x154, .inr (0, [.ref y155, .int 0, .int 0, .int 0])), (y155, .inl (cy 0, t153.length, .inl g156))]]) H := hP
    have hD : va_D (va_A (OW cy a V u0) s.heap.size) (fl [OW cy a V1 u, [(q, .inl (cy 5, 9, .inr (.inl g2)))], sbW cy sb85 vb147 mm148 0 t153.length f149, [(x154, .inr (0, [.ref y155, .int 0, .int 0, .int 0])), (y155, .inl (cy 0, t153.length, .inl g156))]]) := hD
    have hP : va_P G vwCl (fl [OW cy a V1 u, [(q, .inl (cy 5, 9, .inr (.inl g2)))], [(x154, .inr (0, [.ref y155, .int 0, .int 0, .int 0])), (y155, .inl (cy 0, t153.length, .inl g156))]]) H := PpartC (Wc := [OW cy a V1 u, [(q, .inl (cy 5, 9, .inr (.inl g2)))], sbW cy sb85 vb147 mm148 0 t153.length f149, [(x154, .inr (0, [.ref y155, .int 0, .int 0, .int 0])), (y155, .inl (cy 0, t153.length, .inl g156))]]) hP [0, 1, 3] rfl
    have hD : va_D (va_A (OW cy a V u0) s.heap.size) (fl [OW cy a V1 u, [(q, .inl (cy 5, 9, .inr (.inl g2)))], [(x154, .inr (0, [.ref y155, .int 0, .int 0, .int 0])), (y155, .inl (cy 0, t153.length, .inl g156))]]) := DpartC (Wc := [OW cy a V1 u, [(q, .inl (cy 5, 9, .inr (.inl g2)))], sbW cy sb85 vb147 mm148 0 t153.length f149, [(x154, .inr (0, [.ref y155, .int 0, .int 0, .int 0])), (y155, .inl (cy 0, t153.length, .inl g156))]]) hD [0, 1, 3] (by decide) rfl
    have hP9 : va_P G vwCl (fl [[(x154, .inr (0, [.ref y155, .int 0, .int 0, .int 0])), (y155, .inl (cy 0, t153.length, .inl g156))]] ++ OW cy a V1 u) H := by rw [fl_snoc]; exact PpartC (Wc := [OW cy a V1 u, [(q, .inl (cy 5, 9, .inr (.inl g2)))], [(x154, .inr (0, [.ref y155, .int 0, .int 0, .int 0])), (y155, .inl (cy 0, t153.length, .inl g156))]]) hP [2, 0] rfl
    have hD9 : va_D (va_A (OW cy a V u0) s.heap.size) (fl [[(x154, .inr (0, [.ref y155, .int 0, .int 0, .int 0])), (y155, .inl (cy 0, t153.length, .inl g156))]] ++ OW cy a V1 u) := by rw [fl_snoc]; exact DpartC (Wc := [OW cy a V1 u, [(q, .inl (cy 5, 9, .inr (.inl g2)))], [(x154, .inr (0, [.ref y155, .int 0, .int 0, .int 0])), (y155, .inl (cy 0, t153.length, .inl g156))]]) hD [2, 0] (by decide) rfl
    have hT9 : strI t153.length t153 x154 y155 (va_A (OW cy a V1 u) H.size) s H := strI.ofC hts hK hP9 hD9 0 rfl (show t153.length = _ from rfl) (by rw [hl151]; decide) hg157
    refine ly_S S9 hLF (n_run l G cy kS vS a V1 t153 x154 y155 N2 hl9 hG1.1 (by omega) hG1.2.2.2.1 hG1.2.2.2.2.1 hG1.2.1 hG1.2.2.1 (by have h1 := hl151; omega) (fun i hi => hc152 _ (getD_mem hi))) (bigS 2 hts (big_at 47 18 rfl) (big_at 0 2 rfl) (big_at 47 20 rfl) (big_at 47 19 rfl) rfl rfl (by decide +kernel) ⟨Nat.le_of_ble_eq_true rfl, Nat.le_of_ble_eq_true rfl⟩) EX.blind (EX.at hT9) hP hD hS hA rfl hl.1 rfl (Nat.le_of_ble_eq_true rfl) (MC := 1700) ⟨rfl, rfl⟩ (D + 4) (by omega) (by omega) dL_undone_325 (fun V2 r2 u H locs cells slots hR hc hs hP hD hS => ?_)
    have hP : va_P G vwCl (fl [OW cy a V2 u, [(q, .inl (cy 5, 9, .inr (.inl g2)))], [(x154, .inr (0, [.ref y155, .int 0, .int 0, .int 0])), (y155, .inl (cy 0, t153.length, .inl g156))]]) H := hP
    have hD : va_D (va_A (OW cy a V u0) s.heap.size) (fl [OW cy a V2 u, [(q, .inl (cy 5, 9, .inr (.inl g2)))], [(x154, .inr (0, [.ref y155, .int 0, .int 0, .int 0])), (y155, .inl (cy 0, t153.length, .inl g156))]]) := hD
    obtain ⟨r, e2, hR9⟩ := SR.int (run_SR hG1 hR)
    subst e2
    have hP : va_P G vwCl (fl [OW cy a V2 u, [(q, .inl (cy 5, 9, .inr (.inl g2)))]]) H := PpartC (Wc := [OW cy a V2 u, [(q, .inl (cy 5, 9, .inr (.inl g2)))], [(x154, .inr (0, [.ref y155, .int 0, .int 0, .int 0])), (y155, .inl (cy 0, t153.length, .inl g156))]]) hP [0, 1] rfl
    have hD : va_D (va_A (OW cy a V u0) s.heap.size) (fl [OW cy a V2 u, [(q, .inl (cy 5, 9, .inr (.inl g2)))]]) := DpartC (Wc := [OW cy a V2 u, [(q, .inl (cy 5, 9, .inr (.inl g2)))], [(x154, .inr (0, [.ref y155, .int 0, .int 0, .int 0])), (y155, .inl (cy 0, t153.length, .inl g156))]]) hD [0, 1] (by decide) rfl
    refine lv_istore (lv' := [(7, .int r), (6, .int (nI (C1 / 16))), (5, .int (nI C1)), (4, .int (nI k)), (3, .int (nI dn)), (2, .ref q), (1, .ref a.aX), (0, .ref b)]) hx hb dL_undone_328 hl (by decide) rfl (fun ls hl => ?_)
    exact J330 V2 r _ _ _ _ _ hR9 (le_d0 hc) (le_d02 hs) hP hD hS ls (lv_sub hl [0, 3, 4, 5, 6, 7] rfl)
