/-! the law from its entry -/
theorem enc_new : encS stNew = fun _ => 0 := by
  funext j
  show encT 0 (fun _ => 0) (fun _ => 0) (fun _ => 0) (fun _ => 0) 0 (fun _ => 0) (fun _ => 0) (fun _ => 0) (fun _ => 0) (fun _ => 0) 0 (fun _ => 0) (fun _ => 0) (fun _ => 0) 0 0 0 0 0 0 j = 0
  unfold encT
  split
  · split <;> first | rfl | decide
  · split
    · simp
    · split
      · simp
      · simp
abbrev lw0 : LwS := (LwS.mk stNew stNew stNew 0 (-1) (-1) 0 0 0 0 0 0 0 0 (fun _ => stNew) (0, false) (0, false) (fun _ => 0) (fun _ => 0) (fun _ => 0) (fun _ => 0) (fun _ => 0) (fun _ => 0) (fun _ => 0) (fun _ => 0) (fun _ => 0) (fun _ => 0) (fun _ => 0) (fun _ => 0) (fun _ => 0) (fun _ => 0))
set_option maxRecDepth 100000 in
set_option maxHeartbeats 4000000 in
theorem lw0_fl (cy : Nat → ClassId) (a : LA) : fl (LCh cy a lw0 lw0) = ([(a.aX, .inr (11, [.ref (a.na 0), .ref (a.tr 0), .ref (a.sn 0), .int 0, .ref a.hi, .ref a.sc, .int (-1), .int (-1), .ref a.ob]))] ++ sWd cy a.na stNew ++ sWd cy a.tr stNew ++ sWd cy a.sn stNew ++ ([(a.hi, .inr (7, [.ref a.hA, .int 0, .int 0])), (a.hA, .inl (cy 4, 8, .inr (.inr (.inr (.inr (fun k => some (a.ra k 0)))))))] ++ ringW cy a.ra (fun _ => stNew)) ++ [(a.sc, .inr (8, [.ref a.tx, .int 0, .int 0, .int 0, .int 0, .ref a.kd, .ref a.fs, .ref a.sd, .ref a.td])), (a.tx, .inl (cy 1, 60, .inl (fun _ => 0))), (a.kd, .inl (cy 2, 13, .inl (fun _ => 0))), (a.fs, .inl (cy 2, 13, .inl (fun _ => 0))), (a.sd, .inl (cy 2, 13, .inl (fun _ => 0))), (a.td, .inl (cy 2, 13, .inl (fun _ => 0)))] ++ [(a.ob, .inr (1, [.ref a.vb, .int 0, .int 0, .int 0])), (a.vb, .inl (cy 0, 16, .inl (fun _ => 0)))]) ++ [(a.am, .inr (12, [.ref a.aS, .ref a.aBf, .ref a.aAs, .ref a.aSv, .int 0, .ref a.aPa, .int 0, .int 0, .ref a.aOu, .int 0, .ref a.aTx, .int 0, .int 0, .int 0, .int (-1), .int (-1), .ref a.aCo, .int 0])), (a.aS, .inl (cy 2, 89, .inl (fun _ => 0))), (a.aBf, .inl (cy 2, 89, .inl (fun _ => 0))), (a.aAs, .inl (cy 2, 89, .inl (fun _ => 0))), (a.aSv, .inl (cy 2, 89, .inl (fun _ => 0))), (a.aPa, .inl (cy 2, 712, .inl (fun _ => 0))), (a.aOu, .inl (cy 1, 20, .inl (fun _ => 0))), (a.aTx, .inl (cy 1, 60, .inl (fun _ => 0))), (a.aCo, .inl (cy 2, 240, .inl (fun _ => 0)))] ++ [(a.oA, .inl (cy 5, 1, .inr (.inl (fun _ => 0))))] ++ [(a.oD, .inl (cy 6, 1, .inr (.inr (.inr (.inl (fun _ => 0))))))] := by
  have e1 : fl (LCh cy a lw0 lw0) = ([(a.aX, .inr (11, [.ref (a.na 0), .ref (a.tr 0), .ref (a.sn 0), .int 0, .ref a.hi, .ref a.sc, .int (-1), .int (-1), .ref a.ob]))] ++ sWd cy a.na stNew ++ sWd cy a.tr stNew ++ sWd cy a.sn stNew ++ ([(a.hi, .inr (7, [.ref a.hA, .int 0, .int 0])), (a.hA, .inl (cy 4, 8, .inr (.inr (.inr (.inr (fun k => some (a.ra k 0)))))))] ++ ringW cy a.ra (fun _ => stNew)) ++ [(a.sc, .inr (8, [.ref a.tx, .int 0, .int 0, .int 0, .int 0, .ref a.kd, .ref a.fs, .ref a.sd, .ref a.td])), (a.tx, .inl (cy 1, 60, .inl (fun _ => 0))), (a.kd, .inl (cy 2, 13, .inl (fun _ => 0))), (a.fs, .inl (cy 2, 13, .inl (fun _ => 0))), (a.sd, .inl (cy 2, 13, .inl (fun _ => 0))), (a.td, .inl (cy 2, 13, .inl (fun _ => 0)))] ++ [(a.ob, .inr (1, [.ref a.vb, .int 0, .int 0, .int 0])), (a.vb, .inl (cy 0, 16, .inl (fun _ => 0)))]) ++ [(a.am, .inr (12, [.ref a.aS, .ref a.aBf, .ref a.aAs, .ref a.aSv, .int 0, .ref a.aPa, .int 0, .int 0, .ref a.aOu, .int 0, .ref a.aTx, .int 0, .int 0, .int 0, .int (-1), .int (-1), .ref a.aCo, .int 0])), (a.aS, .inl (cy 2, 89, .inl (encS stNew))), (a.aBf, .inl (cy 2, 89, .inl (fun _ => 0))), (a.aAs, .inl (cy 2, 89, .inl (fun _ => 0))), (a.aSv, .inl (cy 2, 89, .inl (fun _ => 0))), (a.aPa, .inl (cy 2, 712, .inl (fun _ => 0))), (a.aOu, .inl (cy 1, 20, .inl (fun _ => 0))), (a.aTx, .inl (cy 1, 60, .inl (fun _ => 0))), (a.aCo, .inl (cy 2, 240, .inl (fun _ => 0)))] ++ [(a.oA, .inl (cy 5, 1, .inr (.inl (fun _ => 0))))] ++ [(a.oD, .inl (cy 6, 1, .inr (.inr (.inr (.inl (fun _ => 0))))))] := by
    rw [fl_eq]
    unfold LCh
    simp only [List.flatten_cons, List.flatten_nil, List.append_assoc, List.cons_append, List.nil_append, List.append_nil]
    rfl
  rw [e1, enc_new]
theorem lw0_LI : LI 0 lw0 := by
  have h : Inv 0 stNew := inv_st0
  exact ⟨h, h, fun _ _ => h, Or.inl rfl, by decide, by decide, fun k hk => absurd hk (Nat.not_lt_zero k), Or.inl rfl, Or.inl rfl, by decide, fun _ _ => rfl, fun j hj => absurd hj (Nat.not_lt_zero j), by decide, fun j hj => absurd hj (Nat.not_lt_zero j)⟩
set_option maxRecDepth 100000 in
set_option maxHeartbeats 4000000 in
/-- from the entry, for every script of at most 2048 ints, the law comes to its end with true -/
theorem whole_start {p : Program} {e : Env} {s : State} {m : MethodId} {below : List Frame} {meth : Method} {c : Code} (l : Launch) (hflags : l.flags = flags0) {b L : Nat} {xs : Nat → Int32} (hL : L ≤ 2048) (C0 : lw_At p s m meth c b L xs) : W p l e room_1 s m #[Value.ref b] below meth c s.heap [] 0 0 (lw_Z below #[Value.ref b] s) (entryFrame m ([Value.ref b] : List Value).toArray 9) := by
  obtain ⟨hx, hb, hr, hml, hown, hts, hX, hbl, hlocks, hgv⟩ := id C0
  have hl9 : l.stackTraces = false := by
    unfold Launch.stackTraces
    rw [hflags]
    decide +kernel
  obtain ⟨A, eA⟩ : ∃ A : Nat → Prop, A = fun q => s.heap.size ≤ q := ⟨_, rfl⟩
  have hA : ∀ q, s.heap.size ≤ q → A q := fun q h => by rw [eA]; exact h
  have hA3 : ∀ q, A q → s.heap.size ≤ q := fun q h => by rw [eA] at h; exact h
  have hA2 : ∀ q : Nat, q < s.heap.size → ¬ A q := fun q h z => absurd (hA3 q z) (Nat.not_le.mpr h)
  have hg := gv_s hgv
  obtain ⟨G, cy, hK⟩ := st_KK hts
  have hTZ := st_TZ hts hg hA2
  have hXS := st_XS hts hg hA2
  obtain ⟨kS, vS, hSK⟩ := st_SK hts hg hA2
  have hDZ := st_DZ hts hg hA2
  have hZ : va_Z "java/lang/String" "COMPACT_STRINGS" "Z" (.int 1) A s s.heap := st_cmp hts hg hA2
  have hAO : va_AO "BathLeague$State" s := va_AO.of (hts (.arrayOver (.object "BathLeague$State")) (by decide +kernel))
  have htL := wsL_law_ok hts
  have S9 : CallFix p m c code 9 s #[.ref b] wsL_law RL := ⟨hx, hb, hml, hown, htL⟩
  have hC : LC l p s m meth c G cy kS vS A b L xs := ⟨S9, hl9, hK, hTZ, hXS, hSK, hDZ, hX, hbl, hA2 b hbl, hL⟩
  have hi11 : ∀ w ∈ wsX70, w ∈ wsL_law := by decide +kernel
  have hi12 : ∀ w ∈ wsX80, w ∈ wsL_law := by decide +kernel
  have hS : va_S A s.heap s.heap [] := va_S.rf
  have hP : va_P G vwCl [] s.heap := fun k q h => by simp at h
  have hD : va_D A [] := ⟨fun i j p q h => by simp at h, fun k q h => by simp at h⟩
  have hl := lv_entry ([.ref b]) (n := 9) (Nat.le_of_ble_eq_true rfl)
  rw [lg_entry_eq]
  generalize (lg_sl ([.ref b]) ++ List.replicate (9 - (lg_sl ([.ref b])).length) Slot.unset).toArray = ls at hl ⊢
  have hl : lv_has ls 9 [(0, .ref b)] := hl
  refine va_new (ci := 11) (fs := [.null, .null, .null, .int 0, .null, .null, .int 0, .int 0, .null]) (C := RX7) (T := TX7) (N := 9) hx hb htL hi11 tyX7 tyX7_ok hown (htL (.classLink RL 8 RX7) (by decide +kernel)) (htL (.instantiable RX7 9) (by decide +kernel)) (htL (.initialized RX7) (by decide +kernel)) hK.1 hP hD hS hA rfl (fun j hj => by rcases (show j = 0 ∨ j = 1 ∨ j = 2 ∨ j = 3 ∨ j = 4 ∨ j = 5 ∨ j = 6 ∨ j = 7 ∨ j = 8 by omega) with rfl | rfl | rfl | rfl | rfl | rfl | rfl | rfl | rfl <;> rfl) (Nat.le_of_ble_eq_true rfl) (Nat.le_of_ble_eq_true rfl) dL_law_0 (fun q7 H hP hD hS => ?_)
  refine lv_dup hx hb dL_law_3 rfl ?_
  have hP : va_P G vwCl ([] ++ [(q7, .inr (11, [.null, .null, .null, .int 0, .null, .null, .int 0, .int 0, .null]))]) _ := hP
  have hD : va_D A ([] ++ [(q7, .inr (11, [.null, .null, .null, .int 0, .null, .null, .int 0, .int 0, .null]))]) := hD
  refine c_niI (As := []) (rest := [.ref q7]) (wr := []) (w := [(q7, .inr (11, [.null, .null, .null, .int 0, .null, .null, .int 0, .int 0, .null]))]) S9 (c_X7_init l G cy q7) (cwI 0 htL gL_law_X7_init rfl rfl rfl (htL (.initialized RX7) (by decide +kernel)) (htL (.methodLink RL 155 yX7_init) (by decide +kernel)) (htL (.instanceMethod yX7_init) (by decide +kernel)) rfl (by decide +kernel) ⟨Nat.le_of_ble_eq_true rfl, Nat.le_of_ble_eq_true rfl⟩) hK hAO hZ hP hD hS hA rfl hl.1 rfl (Nat.le_of_ble_eq_true rfl) ⟨Nat.le_of_ble_eq_true rfl, Nat.le_of_ble_eq_true rfl⟩ dL_law_4 (fun u H locs hP hD hS => ?_)
  obtain ⟨w7, e7⟩ : ∃ w : va_W, w = ([(q7, .inr (11, [.ref (u.1 0), .ref (u.2.1 0), .ref (u.2.2.1 0), .int 0, .ref u.2.2.2.1.1, .ref u.2.2.2.2.1.1, .int (-1), .int (-1), .ref u.2.2.2.2.2.1]))] ++ sWd cy u.1 stNew ++ sWd cy u.2.1 stNew ++ sWd cy u.2.2.1 stNew ++ ([(u.2.2.2.1.1, .inr (7, [.ref u.2.2.2.1.2.1, .int 0, .int 0])), (u.2.2.2.1.2.1, .inl (cy 4, 8, .inr (.inr (.inr (.inr (fun k => some (u.2.2.2.1.2.2 k 0)))))))] ++ ringW cy u.2.2.2.1.2.2 (fun _ => stNew)) ++ [(u.2.2.2.2.1.1, .inr (8, [.ref (u.2.2.2.2.1.2 1), .int 0, .int 0, .int 0, .int 0, .ref (u.2.2.2.2.1.2 2), .ref (u.2.2.2.2.1.2 3), .ref (u.2.2.2.2.1.2 4), .ref (u.2.2.2.2.1.2 5)])), ((u.2.2.2.2.1.2 1), .inl (cy 1, 60, .inl (fun _ => 0))), ((u.2.2.2.2.1.2 2), .inl (cy 2, 13, .inl (fun _ => 0))), ((u.2.2.2.2.1.2 3), .inl (cy 2, 13, .inl (fun _ => 0))), ((u.2.2.2.2.1.2 4), .inl (cy 2, 13, .inl (fun _ => 0))), ((u.2.2.2.2.1.2 5), .inl (cy 2, 13, .inl (fun _ => 0)))] ++ [(u.2.2.2.2.2.1, .inr (1, [.ref (u.2.2.2.2.2.2 1), .int 0, .int 0, .int 0])), ((u.2.2.2.2.2.2 1), .inl (cy 0, 16, .inl (fun _ => 0)))]) := ⟨_, rfl⟩
  have hP : va_P G vwCl ([] ++ ([(q7, .inr (11, [.ref (u.1 0), .ref (u.2.1 0), .ref (u.2.2.1 0), .int 0, .ref u.2.2.2.1.1, .ref u.2.2.2.2.1.1, .int (-1), .int (-1), .ref u.2.2.2.2.2.1]))] ++ sWd cy u.1 stNew ++ sWd cy u.2.1 stNew ++ sWd cy u.2.2.1 stNew ++ ([(u.2.2.2.1.1, .inr (7, [.ref u.2.2.2.1.2.1, .int 0, .int 0])), (u.2.2.2.1.2.1, .inl (cy 4, 8, .inr (.inr (.inr (.inr (fun k => some (u.2.2.2.1.2.2 k 0)))))))] ++ ringW cy u.2.2.2.1.2.2 (fun _ => stNew)) ++ [(u.2.2.2.2.1.1, .inr (8, [.ref (u.2.2.2.2.1.2 1), .int 0, .int 0, .int 0, .int 0, .ref (u.2.2.2.2.1.2 2), .ref (u.2.2.2.2.1.2 3), .ref (u.2.2.2.2.1.2 4), .ref (u.2.2.2.2.1.2 5)])), ((u.2.2.2.2.1.2 1), .inl (cy 1, 60, .inl (fun _ => 0))), ((u.2.2.2.2.1.2 2), .inl (cy 2, 13, .inl (fun _ => 0))), ((u.2.2.2.2.1.2 3), .inl (cy 2, 13, .inl (fun _ => 0))), ((u.2.2.2.2.1.2 4), .inl (cy 2, 13, .inl (fun _ => 0))), ((u.2.2.2.2.1.2 5), .inl (cy 2, 13, .inl (fun _ => 0)))] ++ [(u.2.2.2.2.2.1, .inr (1, [.ref (u.2.2.2.2.2.2 1), .int 0, .int 0, .int 0])), ((u.2.2.2.2.2.2 1), .inl (cy 0, 16, .inl (fun _ => 0)))])) H := hP
  rw [List.nil_append, ← e7] at hP
  have hD : va_D A ([] ++ ([(q7, .inr (11, [.ref (u.1 0), .ref (u.2.1 0), .ref (u.2.2.1 0), .int 0, .ref u.2.2.2.1.1, .ref u.2.2.2.2.1.1, .int (-1), .int (-1), .ref u.2.2.2.2.2.1]))] ++ sWd cy u.1 stNew ++ sWd cy u.2.1 stNew ++ sWd cy u.2.2.1 stNew ++ ([(u.2.2.2.1.1, .inr (7, [.ref u.2.2.2.1.2.1, .int 0, .int 0])), (u.2.2.2.1.2.1, .inl (cy 4, 8, .inr (.inr (.inr (.inr (fun k => some (u.2.2.2.1.2.2 k 0)))))))] ++ ringW cy u.2.2.2.1.2.2 (fun _ => stNew)) ++ [(u.2.2.2.2.1.1, .inr (8, [.ref (u.2.2.2.2.1.2 1), .int 0, .int 0, .int 0, .int 0, .ref (u.2.2.2.2.1.2 2), .ref (u.2.2.2.2.1.2 3), .ref (u.2.2.2.2.1.2 4), .ref (u.2.2.2.2.1.2 5)])), ((u.2.2.2.2.1.2 1), .inl (cy 1, 60, .inl (fun _ => 0))), ((u.2.2.2.2.1.2 2), .inl (cy 2, 13, .inl (fun _ => 0))), ((u.2.2.2.2.1.2 3), .inl (cy 2, 13, .inl (fun _ => 0))), ((u.2.2.2.2.1.2 4), .inl (cy 2, 13, .inl (fun _ => 0))), ((u.2.2.2.2.1.2 5), .inl (cy 2, 13, .inl (fun _ => 0)))] ++ [(u.2.2.2.2.2.1, .inr (1, [.ref (u.2.2.2.2.2.2 1), .int 0, .int 0, .int 0])), ((u.2.2.2.2.2.2 1), .inl (cy 0, 16, .inl (fun _ => 0)))])) := hD
  rw [List.nil_append, ← e7] at hD
  refine lv_astore_n (lv' := [(1, .ref q7), (0, .ref b)]) hx hb dL_law_7 rfl hl (by decide) rfl (fun ls hl => ?_)
  refine va_new (ci := 12) (fs := [.null, .null, .null, .null, .int 0, .null, .int 0, .int 0, .null, .int 0, .null, .int 0, .int 0, .int 0, .int 0, .int 0, .null, .int 0]) (C := RX8) (T := TX8) (N := 18) hx hb htL hi12 tyX8 tyX8_ok hown (htL (.classLink RL 156 RX8) (by decide +kernel)) (htL (.instantiable RX8 18) (by decide +kernel)) (htL (.initialized RX8) (by decide +kernel)) hK.1 hP hD hS hA rfl (fun j hj => by rcases (show j = 0 ∨ j = 1 ∨ j = 2 ∨ j = 3 ∨ j = 4 ∨ j = 5 ∨ j = 6 ∨ j = 7 ∨ j = 8 ∨ j = 9 ∨ j = 10 ∨ j = 11 ∨ j = 12 ∨ j = 13 ∨ j = 14 ∨ j = 15 ∨ j = 16 ∨ j = 17 by omega) with rfl | rfl | rfl | rfl | rfl | rfl | rfl | rfl | rfl | rfl | rfl | rfl | rfl | rfl | rfl | rfl | rfl | rfl <;> rfl) (Nat.le_of_ble_eq_true rfl) (Nat.le_of_ble_eq_true rfl) dL_law_8 (fun q8 H hP hD hS => ?_)
  refine lv_dup hx hb dL_law_11 rfl ?_
  have hP : va_P G vwCl (w7 ++ [(q8, .inr (12, [.null, .null, .null, .null, .int 0, .null, .int 0, .int 0, .null, .int 0, .null, .int 0, .int 0, .int 0, .int 0, .int 0, .null, .int 0]))]) _ := hP
  have hD : va_D A (w7 ++ [(q8, .inr (12, [.null, .null, .null, .null, .int 0, .null, .int 0, .int 0, .null, .int 0, .null, .int 0, .int 0, .int 0, .int 0, .int 0, .null, .int 0]))]) := hD
  refine c_niI (As := []) (rest := [.ref q8]) (wr := w7) (w := [(q8, .inr (12, [.null, .null, .null, .null, .int 0, .null, .int 0, .int 0, .null, .int 0, .null, .int 0, .int 0, .int 0, .int 0, .int 0, .null, .int 0]))]) S9 (c_X8_init l G cy q8) (cwI 0 htL gL_law_X8_init rfl rfl rfl (htL (.initialized RX8) (by decide +kernel)) (htL (.methodLink RL 158 yX8_init) (by decide +kernel)) (htL (.instanceMethod yX8_init) (by decide +kernel)) rfl (by decide +kernel) ⟨Nat.le_of_ble_eq_true rfl, Nat.le_of_ble_eq_true rfl⟩) hK hAO hZ hP hD hS hA rfl hl.1 rfl (Nat.le_of_ble_eq_true rfl) ⟨Nat.le_of_ble_eq_true rfl, Nat.le_of_ble_eq_true rfl⟩ dL_law_12 (fun v H locs hP hD hS => ?_)
  obtain ⟨w8, e8⟩ : ∃ w : va_W, w = [(q8, .inr (12, [.ref (v 1), .ref (v 2), .ref (v 3), .ref (v 4), .int 0, .ref (v 5), .int 0, .int 0, .ref (v 6), .int 0, .ref (v 7), .int 0, .int 0, .int 0, .int (-1), .int (-1), .ref (v 8), .int 0])), ((v 1), .inl (cy 2, 89, .inl (fun _ => 0))), ((v 2), .inl (cy 2, 89, .inl (fun _ => 0))), ((v 3), .inl (cy 2, 89, .inl (fun _ => 0))), ((v 4), .inl (cy 2, 89, .inl (fun _ => 0))), ((v 5), .inl (cy 2, 712, .inl (fun _ => 0))), ((v 6), .inl (cy 1, 20, .inl (fun _ => 0))), ((v 7), .inl (cy 1, 60, .inl (fun _ => 0))), ((v 8), .inl (cy 2, 240, .inl (fun _ => 0)))] := ⟨_, rfl⟩
  have hP : va_P G vwCl (w7 ++ w8) H := by
    rw [e8]
    exact hP
  have hD : va_D A (w7 ++ w8) := by
    rw [e8]
    exact hD
  refine lv_astore_n (lv' := [(2, .ref q8), (1, .ref q7), (0, .ref b)]) hx hb dL_law_15 rfl hl (by decide) rfl (fun ls hl => ?_)
  refine lv_iconst (v := 1) hx hb dL_law_16 (by decide) ?_
  refine m_newa (atype := .long) (ty := .long) (N' := 1) (a0 := (1, .inr (.inl (fun _ => 0)))) hx hb (hts (.arrayClass .long) (by decide +kernel)) rfl hK 5 rfl hP hD hS hA (fun _ => rfl) (by decide) rfl (Nat.le_of_ble_eq_true rfl) (Nat.le_of_ble_eq_true rfl) (Nat.le_of_ble_eq_true rfl) dL_law_17 (fun q5 H hP hD hS => ?_)
  refine lv_astore_n (lv' := [(3, .ref q5), (2, .ref q8), (1, .ref q7), (0, .ref b)]) hx hb dL_law_19 rfl hl (by decide) rfl (fun ls hl => ?_)
  refine lv_iconst (v := 1) hx hb dL_law_20 (by decide) ?_
  refine m_newa (atype := .double) (ty := .double) (N' := 1) (a0 := (1, .inr (.inr (.inr (.inl (fun _ => 0)))))) hx hb (hts (.arrayClass .double) (by decide +kernel)) rfl hK 6 rfl hP hD hS hA (fun _ => rfl) (by decide) rfl (Nat.le_of_ble_eq_true rfl) (Nat.le_of_ble_eq_true rfl) (Nat.le_of_ble_eq_true rfl) dL_law_21 (fun q6 H hP hD hS => ?_)
  refine lv_astore (lv' := [(4, .ref q6), (3, .ref q5), (2, .ref q8), (1, .ref q7), (0, .ref b)]) hx hb dL_law_23 hl (by decide) rfl (fun ls hl => ?_)
  refine lv_iconst (v := 0) hx hb dL_law_25 (by decide) ?_
  refine lv_istore (lv' := [(5, .int 0), (4, .ref q6), (3, .ref q5), (2, .ref q8), (1, .ref q7), (0, .ref b)]) hx hb dL_law_26 hl (by decide) rfl (fun ls hl => ?_)
  obtain ⟨a, ea⟩ : ∃ a : LA, a = (q7, u.2.2.2.1.1, u.2.2.2.2.1.1, u.2.2.2.2.2.1, u.2.2.2.1.2.1, (u.2.2.2.2.1.2 1), (u.2.2.2.2.1.2 2), (u.2.2.2.2.1.2 3), (u.2.2.2.2.1.2 4), (u.2.2.2.2.1.2 5), (u.2.2.2.2.2.2 1), q8, (v 1), (v 2), (v 3), (v 4), (v 5), (v 6), (v 7), (v 8), q5, q6, u.1, u.2.1, u.2.2.1, u.2.2.2.1.2.2) := ⟨_, rfl⟩
  have hP : va_P G vwCl (fl (LCh cy a lw0 lw0)) H := by
    rw [lw0_fl, ea]
    rw [e7, e8] at hP
    exact hP
  have hD : va_D A (fl (LCh cy a lw0 lw0)) := by
    rw [lw0_fl, ea]
    rw [e7, e8] at hD
    exact hD
  have hl : lv_has ls 9 [(5, .int (nI (4 * 0))), (4, .ref a.oD), (3, .ref a.oA), (2, .ref a.am), (1, .ref a.aX), (0, .ref b)] := by
    rw [ea]
    exact hl
  exact law_loop hC hr hlocks hA3 (L + 1) 0 0 _ _ (Nat.zero_le L) (by omega) (by omega) (by omega) (by omega) lw0 H _ ls lw0_LI hP hD hS hl
