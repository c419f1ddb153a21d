/-! the law's methods over rows of numbers -/
theorem RO.ofB {l : Launch} {y : MethodName} {rm : Room} {P : State → Prop} {av : List Value} {r : Option Value} {cc : ByteArray} {maxL : Nat} {ret : Option FieldType} (hy : plainName y.cls = true) (hc : Cond.code y cc maxL ret ∈ wsL_law) (hn : (lg_sl av).length ≤ maxL)
    (body : ∀ (p : Program) (e : Env) (s : State) (m : MethodId) (below : List Frame) (meth : Method) (c : Code), CallFix p m c cc maxL s av.toArray wsL_law y.cls → meth.sig.returnType = ret → meth.locks = false → P s → ∀ ls : Array Slot, lv_has ls maxL (lv_args 0 av) →
      W p l e rm s m av.toArray below meth c s.heap [] 0 0 (roZ below av.toArray s r) (F0 m 0 ls [])) : RO l y wsL_law rm P av r := by
  have h : RO l y (Cond.code y cc maxL ret :: wsL_law) rm P av r := RO.ofW hy rfl hn (fun p e s m below meth c S => body p e s m below meth c ⟨S.1, S.2.1, S.2.2.1, S.2.2.2.1, fun w hw => S.2.2.2.2 w (List.mem_cons_of_mem _ hw)⟩)
  unfold RO at h ⊢
  exact Met.conv h (fun w hw => by rcases List.mem_cons.mp hw with e | e; exact e ▸ hc; exact e) ⟨Nat.le_refl _, Nat.le_refl _, Nat.le_refl _, Nat.le_refl _⟩ (fun _ _ hp => hp) (fun _ _ _ _ _ q => q) (Nat.le_refl _) (Nat.le_refl _) (fun _ hq => hq)
theorem WC.ofB {l : Launch} {y : MethodName} {rm : Room} {G : va_G} {P : State → Prop} {av : List Value} {w w' : va_W} {r : Option Value} {cc : ByteArray} {maxL : Nat} {ret : Option FieldType} (hy : plainName y.cls = true) (hc : Cond.code y cc maxL ret ∈ wsL_law) (hn : (lg_sl av).length ≤ maxL)
    (body : ∀ (p : Program) (e : Env) (s : State) (m : MethodId) (below : List Frame) (meth : Method) (c : Code), CallFix p m c cc maxL s av.toArray wsL_law y.cls → meth.sig.returnType = ret → meth.locks = false → P s → va_D (wA w) w → va_S (wA w) s.heap s.heap [] → ∀ ls : Array Slot, lv_has ls maxL (lv_args 0 av) →
      W p l e rm s m av.toArray below meth c s.heap [] 0 0 (wcZ below av.toArray s G w w' r) (F0 m 0 ls [])) : WC l y wsL_law rm G P av w w' r := by
  have h : WC l y (Cond.code y cc maxL ret :: wsL_law) rm G P av w w' r := WC.ofW hy rfl hn (fun p e s m below meth c S => body p e s m below meth c ⟨S.1, S.2.1, S.2.2.1, S.2.2.2.1, fun w hw => S.2.2.2.2 w (List.mem_cons_of_mem _ hw)⟩)
  unfold WC at h ⊢
  exact Met.conv h (fun w hw => by rcases List.mem_cons.mp hw with e | e; exact e ▸ hc; exact e) ⟨Nat.le_refl _, Nat.le_refl _, Nat.le_refl _, Nat.le_refl _⟩ (fun _ _ hp => hp) (fun _ _ _ _ _ q => q) (Nat.le_refl _) (Nat.le_refl _) (fun _ hq => hq)
def wrm (f g : Nat → Int32) : Int64 := (f 1).toInt64 * (g 0).toInt64 - (g 1).toInt64 * (f 0).toInt64
def oi13 : Option Nat → Int32
  | none => -13
  | some j => nI j
theorem hot_long {v h : Nat → Int32} (H : Bd v h) {a b : Nat} (ha : a < 5) (hb : b < 5) : ((h a).toInt64 * (v b).toInt64 - (h b).toInt64 * (v a).toInt64 ≤ 0 ↔ ¬ hotter v h a b = true) := by
  obtain ⟨⟨a1, a2⟩, a3, a4⟩ := H a ha
  obtain ⟨⟨b1, b2⟩, b3, b4⟩ := H b hb
  obtain ⟨e1, l1, u1⟩ := H.mul ha hb
  obtain ⟨e2, l2, u2⟩ := H.mul hb ha
  have q1 : ((h a).toInt64 * (v b).toInt64).toInt = (h a).toInt * (v b).toInt := by
    rw [Int64.toInt_mul, Int32.toInt_toInt64, Int32.toInt_toInt64]
    exact Int.bmod_eq_of_le (by omega) (by omega)
  have q2 : ((h b).toInt64 * (v a).toInt64).toInt = (h b).toInt * (v a).toInt := by
    rw [Int64.toInt_mul, Int32.toInt_toInt64, Int32.toInt_toInt64]
    exact Int.bmod_eq_of_le (by omega) (by omega)
  have q3 : ((h a).toInt64 * (v b).toInt64 - (h b).toInt64 * (v a).toInt64).toInt = (h a).toInt * (v b).toInt - (h b).toInt * (v a).toInt := by
    rw [Int64.toInt_sub, q1, q2]
    exact Int.bmod_eq_of_le (by omega) (by omega)
  unfold hotter
  rw [decide_eq_true_iff, Classical.not_not, Int64.le_iff_toInt_le, q3, Int32.le_iff_toInt_le, e1, e2, Int64.toInt_zero]
  omega
theorem r_two {G : va_G} {cy : Nat → ClassId} {ro : Nat} {ra : Nat → Nat} {σ : St} {H : Heap} (hP : va_P G vwCl (fl [rowsW cy ro ra σ]) H) {i j : Nat} (hi : i < nB σ) (hj : j < nB σ) : va_P G vwCl [(ra i, .inl (cy 2, 4, .inl (rowF σ i))), (ra j, .inl (cy 2, 4, .inl (rowF σ j)))] H := m_Ppart hP [i + 1, j + 1] (by show [(rowsW cy ro ra σ)[i + 1]?, (rowsW cy ro ra σ)[j + 1]?] = _; rw [rows_at hi, rows_at hj]; rfl)
set_option maxRecDepth 100000 in
set_option maxHeartbeats 1000000 in
theorem n_warmer (l : Launch) (G : va_G) (cy : Nat → ClassId) (x : Nat) (y : Nat) (f : Nat → Int32) (g : Nat → Int32) : RO l yL_warmer wsL_law { frames := 0, cells := 0, slots := 0, locals := 0 } (PB G cy [(x, .inl (cy 2, 4, .inl f)), (y, .inl (cy 2, 4, .inl g))]) [.ref x, .ref y] (some (.long (wrm f g))) := by
  refine RO.ofB (cc := cL_warmer) (maxL := 2) (ret := (some .long)) (by decide) (big_at 18 19 rfl) (Nat.le_of_ble_eq_true rfl) ?_
  intro p e s m below meth cq S9 hr hlocks hPB ls hl
  obtain ⟨hx, hb, hml, hown, hts⟩ := id S9
  obtain ⟨hP, hK⟩ := hPB
  have hl : lv_has ls 2 [(0, .ref x), (1, .ref y)] := hl
  refine lv_aload_n hx hb dL_warmer_0 rfl (lv_at hl 0 rfl) ?_
  refine lv_iconst (v := 1) hx hb dL_warmer_1 (by decide) ?_
  refine m_iald hx hb hK hP 0 (k := 1) rfl rfl (by decide) (Nat.le_of_ble_eq_true rfl) dL_warmer_2 ?_
  refine lv_i2l hx hb dL_warmer_3 rfl ?_
  refine lv_aload_n hx hb dL_warmer_4 rfl (lv_at hl 1 rfl) ?_
  refine lv_iconst (v := 0) hx hb dL_warmer_5 (by decide) ?_
  refine m_iald hx hb hK hP 1 (k := 0) rfl rfl (by decide) (Nat.le_of_ble_eq_true rfl) dL_warmer_6 ?_
  refine lv_i2l hx hb dL_warmer_7 rfl ?_
  refine lv_lmul hx hb dL_warmer_8 ?_
  refine lv_aload_n hx hb dL_warmer_9 rfl (lv_at hl 1 rfl) ?_
  refine lv_iconst (v := 1) hx hb dL_warmer_10 (by decide) ?_
  refine m_iald hx hb hK hP 1 (k := 1) rfl rfl (by decide) (Nat.le_of_ble_eq_true rfl) dL_warmer_11 ?_
  refine lv_i2l hx hb dL_warmer_12 rfl ?_
  refine lv_aload_n hx hb dL_warmer_13 rfl (lv_at hl 0 rfl) ?_
  refine lv_iconst (v := 0) hx hb dL_warmer_14 (by decide) ?_
  refine m_iald hx hb hK hP 0 (k := 0) rfl rfl (by decide) (Nat.le_of_ble_eq_true rfl) dL_warmer_15 ?_
  refine lv_i2l hx hb dL_warmer_16 rfl ?_
  refine lv_lmul hx hb dL_warmer_17 ?_
  refine lv_lsub hx hb dL_warmer_18 ?_
  exact W.lret hx hb hr (fun t ht _ => ⟨rfl, ht⟩) (fun q h => by cases h) dL_warmer_19 hlocks
set_option maxRecDepth 100000 in
set_option maxHeartbeats 1000000 in
theorem n_wetMembers (l : Launch) (G : va_G) (cy : Nat → ClassId) (ro : Nat) (ra : Nat → Nat) (σ : St) (hN : nB σ ≤ 5) (hm : ∀ j, j < 5 → mB σ j = 0 ∨ mB σ j = 1) : RO l yL_wetMembers wsL_law { frames := 0, cells := 0, slots := 0, locals := 0 } (PB G cy (rowsW cy ro ra σ)) [.ref ro] (some (.int (cntW (vB σ) (mB σ) (nB σ)))) := by
  refine RO.ofB (cc := cL_wetMembers) (maxL := 6) (ret := (some .int)) (by decide) (big_at 24 1 rfl) (Nat.le_of_ble_eq_true rfl) ?_
  intro p e s m below meth cq S9 hr hlocks hPB ls hl
  obtain ⟨hx, hb, hml, hown, hts⟩ := id S9
  obtain ⟨hP, hK⟩ := hPB
  have hl : lv_has ls 6 [(0, .ref ro)] := hl
  refine lv_iconst (v := 0) hx hb dL_wetMembers_0 (by decide) ?_
  refine lv_istore_n (lv' := [(1, .int 0), (0, .ref ro)]) hx hb dL_wetMembers_1 rfl hl (by decide) rfl (fun ls hl => ?_)
  refine lv_aload_n hx hb dL_wetMembers_2 rfl (lv_at hl 1 rfl) ?_
  refine lv_astore_n (lv' := [(2, .ref ro), (1, .int 0), (0, .ref ro)]) hx hb dL_wetMembers_3 rfl hl (by decide) rfl (fun ls hl => ?_)
  refine lv_aload_n hx hb dL_wetMembers_4 rfl (lv_at hl 0 rfl) ?_
  refine r_len (Wc := [rowsW cy ro ra σ]) hx hb hK hP 0 rfl dL_wetMembers_5 ?_
  refine lv_istore_n (lv' := [(3, .int (nI (nB σ))), (2, .ref ro), (1, .int 0), (0, .ref ro)]) hx hb dL_wetMembers_6 rfl hl (by decide) rfl (fun ls hl => ?_)
  refine lv_iconst (v := 0) hx hb dL_wetMembers_7 (by decide) ?_
  refine lv_istore (lv' := [(4, .int 0), (3, .int (nI (nB σ))), (2, .ref ro), (1, .int 0), (0, .ref ro)]) hx hb dL_wetMembers_8 hl (by decide) rfl (fun ls hl => ?_)
  have L10 : ∀ (d k : Nat), k + d = nB σ → ∀ ls : Array Slot, lv_has ls 6 [(4, .int (nI k)), (3, .int (nI (nB σ))), (2, .ref ro), (1, .int (cntW (vB σ) (mB σ) k)), (0, .ref ro)] → W p l e ({ frames := 0, cells := 0, slots := 0, locals := 0 } : Room) s m ([.ref ro] : List Value).toArray below meth cq s.heap [] 0 0 (roZ below ([.ref ro] : List Value).toArray s (some (.int (cntW (vB σ) (mB σ) (nB σ))))) (F0 m 10 ls []) := by
    intro d
    induction d with
    | zero =>
      intro k hk ls hl
      have hk9 : k = nB σ := by omega
      subst hk9
      refine lv_iload hx hb dL_wetMembers_10 (lv_at hl 0 rfl) ?_
      refine lv_iload_n hx hb dL_wetMembers_12 rfl (lv_at hl 1 rfl) ?_
      refine lv_icmp_ge (tgt := 51) hx hb dL_wetMembers_13 (by decide) (fun _ => ?_) (fun c9 => absurd (Int32.le_refl _) c9)
      refine lv_iload_n hx hb dL_wetMembers_51 rfl (lv_at hl 3 rfl) ?_
      exact ro_iret hx hb hr hlocks rfl dL_wetMembers_52
    | succ d ih =>
      intro k hk ls hl
      have hk9 : k < nB σ := by omega
      refine lv_iload hx hb dL_wetMembers_10 (lv_at hl 0 rfl) ?_
      refine lv_iload_n hx hb dL_wetMembers_12 rfl (lv_at hl 1 rfl) ?_
      refine lv_icmp_ge (tgt := 51) hx hb dL_wetMembers_13 (by decide) (fun c9 => absurd c9 (fun q => absurd ((nI_leI (by omega) (by omega)).mp q) (by omega))) (fun _ => ?_)
      refine lv_aload_n hx hb dL_wetMembers_16 rfl (lv_at hl 2 rfl) ?_
      refine lv_iload hx hb dL_wetMembers_17 (lv_at hl 0 rfl) ?_
      refine r_row (Wc := [rowsW cy ro ra σ]) hx hb hK hP 0 rfl k rfl hk9 hN dL_wetMembers_19 ?_
      refine lv_astore (lv' := [(5, .ref (ra k)), (4, .int (nI k)), (3, .int (nI (nB σ))), (2, .ref ro), (1, .int (cntW (vB σ) (mB σ) k)), (0, .ref ro)]) hx hb dL_wetMembers_20 hl (by decide) rfl (fun ls hl => ?_)
      refine lv_iload_n hx hb dL_wetMembers_22 rfl (lv_at hl 4 rfl) ?_
      refine lv_aload hx hb dL_wetMembers_23 (lv_at hl 0 rfl) ?_
      refine lv_iconst (v := 3) hx hb dL_wetMembers_25 (by decide) ?_
      refine r_get (Wc := [rowsW cy ro ra σ]) (v := mB σ k) hx hb hK hP 0 rfl k 3 rfl (by decide) hk9 rfl dL_wetMembers_26 ?_
      refine lv_iconst (v := 1) hx hb dL_wetMembers_27 (by decide) ?_
      rcases hm k (by omega) with m9 | m9
      · refine lv_icmp_ne (tgt := 42) hx hb dL_wetMembers_28 (by decide) (fun _ => ?_) (fun c9 => absurd c9 (by rw [m9]; decide))
        refine lv_iconst (v := 0) hx hb dL_wetMembers_42 (by decide) ?_
        refine lv_iadd hx hb dL_wetMembers_43 ?_
        refine lv_istore_n (lv' := [(1, .int ((cntW (vB σ) (mB σ) k) + 0)), (5, .ref (ra k)), (4, .int (nI k)), (3, .int (nI (nB σ))), (2, .ref ro), (0, .ref ro)]) hx hb dL_wetMembers_44 rfl hl (by decide) rfl (fun ls hl => ?_)
        refine lv_iinc (v := nI (k + 1)) (lv' := [(4, .int (nI (k + 1))), (1, .int ((cntW (vB σ) (mB σ) k) + 0)), (5, .ref (ra k)), (3, .int (nI (nB σ))), (2, .ref ro), (0, .ref ro)]) hx hb dL_wetMembers_45 hl (k := 2) rfl (m_inc _) (by decide) rfl (fun ls hl => ?_)
        refine lv_goto (tgt := 10) hx hb dL_wetMembers_48 (by decide) ?_
        have e10_1 : cntW (vB σ) (mB σ) (k + 1) = (cntW (vB σ) (mB σ) k) + 0 := (by rw [Int32.add_zero]; simp only [cntW]; rw [if_pos m9])
        exact ih (k + 1) (by omega) ls (by rw [e10_1]; exact lv_sub hl [0, 3, 4, 1, 5] rfl)
      · refine lv_icmp_ne (tgt := 42) hx hb dL_wetMembers_28 (by decide) (fun c9 => absurd m9 c9) (fun _ => ?_)
        refine lv_aload hx hb dL_wetMembers_31 (lv_at hl 0 rfl) ?_
        refine lv_iconst (v := 0) hx hb dL_wetMembers_33 (by decide) ?_
        refine r_get (Wc := [rowsW cy ro ra σ]) (v := vB σ k) hx hb hK hP 0 rfl k 0 rfl (by decide) hk9 rfl dL_wetMembers_34 ?_
        have m8 : ¬ mB σ k = 0 := by rw [m9]; decide
        refine lv_if_le (tgt := 42) hx hb dL_wetMembers_35 (by decide) (fun c9 => ?_) (fun c9 => ?_)
        · refine lv_iconst (v := 0) hx hb dL_wetMembers_42 (by decide) ?_
          refine lv_iadd hx hb dL_wetMembers_43 ?_
          refine lv_istore_n (lv' := [(1, .int ((cntW (vB σ) (mB σ) k) + 0)), (5, .ref (ra k)), (4, .int (nI k)), (3, .int (nI (nB σ))), (2, .ref ro), (0, .ref ro)]) hx hb dL_wetMembers_44 rfl hl (by decide) rfl (fun ls hl => ?_)
          refine lv_iinc (v := nI (k + 1)) (lv' := [(4, .int (nI (k + 1))), (1, .int ((cntW (vB σ) (mB σ) k) + 0)), (5, .ref (ra k)), (3, .int (nI (nB σ))), (2, .ref ro), (0, .ref ro)]) hx hb dL_wetMembers_45 hl (k := 2) rfl (m_inc _) (by decide) rfl (fun ls hl => ?_)
          refine lv_goto (tgt := 10) hx hb dL_wetMembers_48 (by decide) ?_
          have e10_1 : cntW (vB σ) (mB σ) (k + 1) = (cntW (vB σ) (mB σ) k) + 0 := (by rw [Int32.add_zero]; simp only [cntW]; rw [if_neg m8, if_neg (show ¬ wet (vB σ) k = true from fun q => m_wet q c9)])
          exact ih (k + 1) (by omega) ls (by rw [e10_1]; exact lv_sub hl [0, 3, 4, 1, 5] rfl)
        · refine lv_iconst (v := 1) hx hb dL_wetMembers_38 (by decide) ?_
          refine lv_goto (tgt := 43) hx hb dL_wetMembers_39 (by decide) ?_
          refine lv_iadd hx hb dL_wetMembers_43 ?_
          refine lv_istore_n (lv' := [(1, .int ((cntW (vB σ) (mB σ) k) + 1)), (5, .ref (ra k)), (4, .int (nI k)), (3, .int (nI (nB σ))), (2, .ref ro), (0, .ref ro)]) hx hb dL_wetMembers_44 rfl hl (by decide) rfl (fun ls hl => ?_)
          refine lv_iinc (v := nI (k + 1)) (lv' := [(4, .int (nI (k + 1))), (1, .int ((cntW (vB σ) (mB σ) k) + 1)), (5, .ref (ra k)), (3, .int (nI (nB σ))), (2, .ref ro), (0, .ref ro)]) hx hb dL_wetMembers_45 hl (k := 2) rfl (m_inc _) (by decide) rfl (fun ls hl => ?_)
          refine lv_goto (tgt := 10) hx hb dL_wetMembers_48 (by decide) ?_
          have e10_1 : cntW (vB σ) (mB σ) (k + 1) = (cntW (vB σ) (mB σ) k) + 1 := (by simp only [cntW]; rw [if_neg m8, if_pos (show wet (vB σ) k = true from decide_eq_true c9)])
          exact ih (k + 1) (by omega) ls (by rw [e10_1]; exact lv_sub hl [0, 3, 4, 1, 5] rfl)
  exact L10 (nB σ) 0 (by omega) ls (lv_sub hl [0, 1, 2, 3, 4] rfl)
set_option maxRecDepth 100000 in
set_option maxHeartbeats 1000000 in
theorem n_hottest (l : Launch) (G : va_G) (cy : Nat → ClassId) (ro : Nat) (ra : Nat → Nat) (σ : St) (hN : nB σ ≤ 5) (hm : ∀ j, j < 5 → mB σ j = 0 ∨ mB σ j = 1) (hbd : Bd (vB σ) (hB σ)) : RO l yL_extreme wsL_law { frames := 1, cells := 0, slots := 0, locals := 30 } (PB G cy (rowsW cy ro ra σ)) [.ref ro, .int 1] (some (.int (oi13 (hotO (vB σ) (hB σ) (mB σ) (nB σ))))) := by
  refine RO.ofB (cc := cL_extreme) (maxL := 5) (ret := (some .int)) (by decide) (big_at 23 5 rfl) (Nat.le_of_ble_eq_true rfl) ?_
  intro p e s m below meth cq S9 hr hlocks hPB ls hl
  obtain ⟨hx, hb, hml, hown, hts⟩ := id S9
  obtain ⟨hP, hK⟩ := hPB
  have hl : lv_has ls 5 [(0, .ref ro), (1, .int 1)] := hl
  refine lv_bipush (v := (-13)) hx hb dL_extreme_0 (by decide) ?_
  refine lv_istore_n (lv' := [(2, .int (-13)), (0, .ref ro), (1, .int 1)]) hx hb dL_extreme_2 rfl hl (by decide) rfl (fun ls hl => ?_)
  refine lv_iconst (v := 0) hx hb dL_extreme_3 (by decide) ?_
  refine lv_istore_n (lv' := [(3, .int 0), (2, .int (-13)), (0, .ref ro), (1, .int 1)]) hx hb dL_extreme_4 rfl hl (by decide) rfl (fun ls hl => ?_)
  have L5 : ∀ (d k : Nat), k + d = nB σ → ∀ ls : Array Slot, lv_has ls 5 [(3, .int (nI k)), (2, .int (oi13 (hotO (vB σ) (hB σ) (mB σ) k))), (1, .int 1), (0, .ref ro)] → W p l e ({ frames := 1, cells := 0, slots := 0, locals := 30 } : Room) s m ([.ref ro, .int 1] : List Value).toArray below meth cq s.heap [] 0 0 (roZ below ([.ref ro, .int 1] : List Value).toArray s (some (.int (oi13 (hotO (vB σ) (hB σ) (mB σ) (nB σ)))))) (F0 m 5 ls []) := by
    intro d
    induction d with
    | zero =>
      intro k hk ls hl
      have hk9 : k = nB σ := by omega
      subst hk9
      refine lv_iload_n hx hb dL_extreme_5 rfl (lv_at hl 0 rfl) ?_
      refine lv_aload_n hx hb dL_extreme_6 rfl (lv_at hl 3 rfl) ?_
      refine r_len (Wc := [rowsW cy ro ra σ]) hx hb hK hP 0 rfl dL_extreme_7 ?_
      refine lv_icmp_ge (tgt := 86) hx hb dL_extreme_8 (by decide) (fun _ => ?_) (fun c9 => absurd (Int32.le_refl _) c9)
      refine lv_iload_n hx hb dL_extreme_86 rfl (lv_at hl 1 rfl) ?_
      exact ro_iret hx hb hr hlocks rfl dL_extreme_87
    | succ d ih =>
      intro k hk ls hl
      have hk9 : k < nB σ := by omega
      refine lv_iload_n hx hb dL_extreme_5 rfl (lv_at hl 0 rfl) ?_
      refine lv_aload_n hx hb dL_extreme_6 rfl (lv_at hl 3 rfl) ?_
      refine r_len (Wc := [rowsW cy ro ra σ]) hx hb hK hP 0 rfl dL_extreme_7 ?_
      refine lv_icmp_ge (tgt := 86) hx hb dL_extreme_8 (by decide) (fun c9 => absurd c9 (fun q => absurd ((nI_leI (by omega) (by omega)).mp q) (by omega))) (fun _ => ?_)
      refine lv_aload_n hx hb dL_extreme_11 rfl (lv_at hl 3 rfl) ?_
      refine lv_iload_n hx hb dL_extreme_12 rfl (lv_at hl 0 rfl) ?_
      refine r_row (Wc := [rowsW cy ro ra σ]) hx hb hK hP 0 rfl k rfl hk9 hN dL_extreme_13 ?_
      refine lv_iconst (v := 3) hx hb dL_extreme_14 (by decide) ?_
      refine r_get (Wc := [rowsW cy ro ra σ]) (v := mB σ k) hx hb hK hP 0 rfl k 3 rfl (by decide) hk9 rfl dL_extreme_15 ?_
      refine lv_iconst (v := 1) hx hb dL_extreme_16 (by decide) ?_
      rcases hm k (by omega) with m9 | m9
      · refine lv_icmp_ne (tgt := 32) hx hb dL_extreme_17 (by decide) (fun _ => ?_) (fun c9 => absurd c9 (by rw [m9]; decide))
        refine lv_iconst (v := 0) hx hb dL_extreme_32 (by decide) ?_
        refine lv_istore (lv' := [(4, .int 0), (3, .int (nI k)), (2, .int (oi13 (hotO (vB σ) (hB σ) (mB σ) k))), (1, .int 1), (0, .ref ro)]) hx hb dL_extreme_33 hl (by decide) rfl (fun ls hl => ?_)
        refine lv_iload hx hb dL_extreme_35 (lv_at hl 0 rfl) ?_
        refine lv_if_eq (tgt := 78) hx hb dL_extreme_37 (by decide) (fun _ => ?_) (fun c9 => absurd (by decide) c9)
        refine lv_iload_n hx hb dL_extreme_78 rfl (lv_at hl 2 rfl) ?_
        refine lv_istore_n (lv' := [(2, .int (oi13 (hotO (vB σ) (hB σ) (mB σ) k))), (4, .int 0), (3, .int (nI k)), (1, .int 1), (0, .ref ro)]) hx hb dL_extreme_79 rfl hl (by decide) rfl (fun ls hl => ?_)
        refine lv_iinc (v := nI (k + 1)) (lv' := [(3, .int (nI (k + 1))), (2, .int (oi13 (hotO (vB σ) (hB σ) (mB σ) k))), (4, .int 0), (1, .int 1), (0, .ref ro)]) hx hb dL_extreme_80 hl (k := 2) rfl (m_inc _) (by decide) rfl (fun ls hl => ?_)
        refine lv_goto (tgt := 5) hx hb dL_extreme_83 (by decide) ?_
        have e5_2 : oi13 (hotO (vB σ) (hB σ) (mB σ) (k + 1)) = oi13 (hotO (vB σ) (hB σ) (mB σ) k) := (by simp only [hotO]; rw [if_pos m9])
        exact ih (k + 1) (by omega) ls (by rw [e5_2]; exact lv_sub hl [0, 1, 3, 4] rfl)
      · refine lv_icmp_ne (tgt := 32) hx hb dL_extreme_17 (by decide) (fun c9 => absurd m9 c9) (fun _ => ?_)
        have m8 : ¬ mB σ k = 0 := by rw [m9]; decide
        refine lv_aload_n hx hb dL_extreme_20 rfl (lv_at hl 3 rfl) ?_
        refine lv_iload_n hx hb dL_extreme_21 rfl (lv_at hl 0 rfl) ?_
        refine r_row (Wc := [rowsW cy ro ra σ]) hx hb hK hP 0 rfl k rfl hk9 hN dL_extreme_22 ?_
        refine lv_iconst (v := 0) hx hb dL_extreme_23 (by decide) ?_
        refine r_get (Wc := [rowsW cy ro ra σ]) (v := vB σ k) hx hb hK hP 0 rfl k 0 rfl (by decide) hk9 rfl dL_extreme_24 ?_
        refine lv_if_le (tgt := 32) hx hb dL_extreme_25 (by decide) (fun c9 => ?_) (fun c9 => ?_)
        · refine lv_iconst (v := 0) hx hb dL_extreme_32 (by decide) ?_
          refine lv_istore (lv' := [(4, .int 0), (3, .int (nI k)), (2, .int (oi13 (hotO (vB σ) (hB σ) (mB σ) k))), (1, .int 1), (0, .ref ro)]) hx hb dL_extreme_33 hl (by decide) rfl (fun ls hl => ?_)
          refine lv_iload hx hb dL_extreme_35 (lv_at hl 0 rfl) ?_
          refine lv_if_eq (tgt := 78) hx hb dL_extreme_37 (by decide) (fun _ => ?_) (fun c9 => absurd (by decide) c9)
          refine lv_iload_n hx hb dL_extreme_78 rfl (lv_at hl 2 rfl) ?_
          refine lv_istore_n (lv' := [(2, .int (oi13 (hotO (vB σ) (hB σ) (mB σ) k))), (4, .int 0), (3, .int (nI k)), (1, .int 1), (0, .ref ro)]) hx hb dL_extreme_79 rfl hl (by decide) rfl (fun ls hl => ?_)
          refine lv_iinc (v := nI (k + 1)) (lv' := [(3, .int (nI (k + 1))), (2, .int (oi13 (hotO (vB σ) (hB σ) (mB σ) k))), (4, .int 0), (1, .int 1), (0, .ref ro)]) hx hb dL_extreme_80 hl (k := 2) rfl (m_inc _) (by decide) rfl (fun ls hl => ?_)
          refine lv_goto (tgt := 5) hx hb dL_extreme_83 (by decide) ?_
          have e5_2 : oi13 (hotO (vB σ) (hB σ) (mB σ) (k + 1)) = oi13 (hotO (vB σ) (hB σ) (mB σ) k) := (by simp only [hotO]; rw [if_neg m8, if_neg (show ¬ wet (vB σ) k = true from fun q => m_wet q c9)])
          exact ih (k + 1) (by omega) ls (by rw [e5_2]; exact lv_sub hl [0, 1, 3, 4] rfl)
        · refine lv_iconst (v := 1) hx hb dL_extreme_28 (by decide) ?_
          refine lv_goto (tgt := 33) hx hb dL_extreme_29 (by decide) ?_
          refine lv_istore (lv' := [(4, .int 1), (3, .int (nI k)), (2, .int (oi13 (hotO (vB σ) (hB σ) (mB σ) k))), (1, .int 1), (0, .ref ro)]) hx hb dL_extreme_33 hl (by decide) rfl (fun ls hl => ?_)
          refine lv_iload hx hb dL_extreme_35 (lv_at hl 0 rfl) ?_
          refine lv_if_eq (tgt := 78) hx hb dL_extreme_37 (by decide) (fun c9 => absurd c9 (by decide)) (fun _ => ?_)
          have w9 : wet (vB σ) k = true := decide_eq_true c9
          cases hO : hotO (vB σ) (hB σ) (mB σ) k with
          | none =>
            rw [hO] at hl
            have hl : lv_has ls 5 [(4, .int 1), (3, .int (nI k)), (2, .int (-13)), (1, .int 1), (0, .ref ro)] := hl
            refine lv_iload_n hx hb dL_extreme_40 rfl (lv_at hl 2 rfl) ?_
            refine lv_if_lt (tgt := 74) hx hb dL_extreme_41 (by decide) (fun _ => ?_) (fun c9 => absurd (by decide) c9)
            refine lv_iload_n hx hb dL_extreme_74 rfl (lv_at hl 1 rfl) ?_
            refine lv_goto (tgt := 79) hx hb dL_extreme_75 (by decide) ?_
            refine lv_istore_n (lv' := [(2, .int (nI k)), (4, .int 1), (3, .int (nI k)), (1, .int 1), (0, .ref ro)]) hx hb dL_extreme_79 rfl hl (by decide) rfl (fun ls hl => ?_)
            refine lv_iinc (v := nI (k + 1)) (lv' := [(3, .int (nI (k + 1))), (2, .int (nI k)), (4, .int 1), (1, .int 1), (0, .ref ro)]) hx hb dL_extreme_80 hl (k := 2) rfl (m_inc _) (by decide) rfl (fun ls hl => ?_)
            refine lv_goto (tgt := 5) hx hb dL_extreme_83 (by decide) ?_
            have e5_2 : oi13 (hotO (vB σ) (hB σ) (mB σ) (k + 1)) = nI k := (by simp only [hotO]; rw [if_neg m8, if_pos w9, hO]; rfl)
            exact ih (k + 1) (by omega) ls (by rw [e5_2]; exact lv_sub hl [0, 1, 3, 4] rfl)
          | some j =>
            have hj := hotO_lt hO
            rw [hO] at hl
            have hl : lv_has ls 5 [(4, .int 1), (3, .int (nI k)), (2, .int (nI j)), (1, .int 1), (0, .ref ro)] := hl
            refine lv_iload_n hx hb dL_extreme_40 rfl (lv_at hl 2 rfl) ?_
            refine lv_if_lt (tgt := 74) hx hb dL_extreme_41 (by decide) (fun c9 => absurd c9 (fun q => absurd ((nI_ltI (a := j) (b := 0) (by omega) (by omega)).mp q) (Nat.not_lt_zero j))) (fun _ => ?_)
            refine lv_iload_n hx hb dL_extreme_44 rfl (lv_at hl 3 rfl) ?_
            refine lv_if_eq (tgt := 60) hx hb dL_extreme_45 (by decide) (fun c9 => absurd c9 (by decide)) (fun _ => ?_)
            refine lv_aload_n hx hb dL_extreme_48 rfl (lv_at hl 4 rfl) ?_
            refine lv_iload_n hx hb dL_extreme_49 rfl (lv_at hl 1 rfl) ?_
            refine r_row (Wc := [rowsW cy ro ra σ]) hx hb hK hP 0 rfl k rfl hk9 hN dL_extreme_50 ?_
            refine lv_aload_n hx hb dL_extreme_51 rfl (lv_at hl 4 rfl) ?_
            refine lv_iload_n hx hb dL_extreme_52 rfl (lv_at hl 2 rfl) ?_
            refine r_row (Wc := [rowsW cy ro ra σ]) hx hb hK hP 0 rfl j rfl (by omega) hN dL_extreme_53 ?_
            refine m_ro (va_runS S9 (n_warmer l G cy (ra k) (ra j) (rowF σ k) (rowF σ j)) (bigS 2 hts (big_at 18 17 rfl) (big_at 0 2 rfl) (big_at 18 19 rfl) (big_at 18 18 rfl) rfl rfl (by decide +kernel) ⟨Nat.le_of_ble_eq_true rfl, Nat.le_of_ble_eq_true rfl⟩) ⟨fun b2 U g mk q => ⟨q.1, PB.blind U g mk b2 q.2⟩, fun U hU hW => ⟨rfl, PB.at hK (r_two hP hk9 (by omega)) U hU hW⟩⟩ (g := F0 m _ ls _) rfl rfl hl.1 rfl (lv_room (Nat.le_of_ble_eq_true rfl)) dL_extreme_54 ⟨Nat.zero_le _, Nat.zero_le _⟩) ?_
            refine lv_goto (tgt := 69) hx hb dL_extreme_57 (by decide) ?_
            refine lv_lconst (v := 0) hx hb dL_extreme_69 (by decide) ?_
            have h9 : (wrm (rowF σ k) (rowF σ j) ≤ 0 ↔ ¬ hotter (vB σ) (hB σ) k j = true) := hot_long hbd (by omega) (by omega)
            by_cases z9 : hotter (vB σ) (hB σ) k j = true
            · refine W.lcmp hx hb dL_extreme_70 ?_
              refine lv_if_le (tgt := 78) hx hb dL_extreme_71 (by decide) (fun c9 => absurd c9 (fun q => (h9.mp ((lg_cmp_le _ _).mp q)) z9)) (fun _ => ?_)
              refine lv_iload_n hx hb dL_extreme_74 rfl (lv_at hl 1 rfl) ?_
              refine lv_goto (tgt := 79) hx hb dL_extreme_75 (by decide) ?_
              refine lv_istore_n (lv' := [(2, .int (nI k)), (4, .int 1), (3, .int (nI k)), (1, .int 1), (0, .ref ro)]) hx hb dL_extreme_79 rfl hl (by decide) rfl (fun ls hl => ?_)
              refine lv_iinc (v := nI (k + 1)) (lv' := [(3, .int (nI (k + 1))), (2, .int (nI k)), (4, .int 1), (1, .int 1), (0, .ref ro)]) hx hb dL_extreme_80 hl (k := 2) rfl (m_inc _) (by decide) rfl (fun ls hl => ?_)
              refine lv_goto (tgt := 5) hx hb dL_extreme_83 (by decide) ?_
              have e5_2 : oi13 (hotO (vB σ) (hB σ) (mB σ) (k + 1)) = nI k := (by simp only [hotO]; rw [if_neg m8, if_pos w9, hO]; simp only [z9]; rfl)
              exact ih (k + 1) (by omega) ls (by rw [e5_2]; exact lv_sub hl [0, 1, 3, 4] rfl)
            · refine W.lcmp hx hb dL_extreme_70 ?_
              refine lv_if_le (tgt := 78) hx hb dL_extreme_71 (by decide) (fun _ => ?_) (fun c9 => absurd ((lg_cmp_le _ _).mpr (h9.mpr z9)) c9)
              refine lv_iload_n hx hb dL_extreme_78 rfl (lv_at hl 2 rfl) ?_
              refine lv_istore_n (lv' := [(2, .int (nI j)), (4, .int 1), (3, .int (nI k)), (1, .int 1), (0, .ref ro)]) hx hb dL_extreme_79 rfl hl (by decide) rfl (fun ls hl => ?_)
              refine lv_iinc (v := nI (k + 1)) (lv' := [(3, .int (nI (k + 1))), (2, .int (nI j)), (4, .int 1), (1, .int 1), (0, .ref ro)]) hx hb dL_extreme_80 hl (k := 2) rfl (m_inc _) (by decide) rfl (fun ls hl => ?_)
              refine lv_goto (tgt := 5) hx hb dL_extreme_83 (by decide) ?_
              have e5_2 : oi13 (hotO (vB σ) (hB σ) (mB σ) (k + 1)) = nI j := (by simp only [hotO]; rw [if_neg m8, if_pos w9, hO]; exact congrArg oi13 (if_neg z9))
              exact ih (k + 1) (by omega) ls (by rw [e5_2]; exact lv_sub hl [0, 1, 3, 4] rfl)
  exact L5 (nB σ) 0 (by omega) ls (lv_sub hl [0, 1, 3, 2] rfl)
set_option maxRecDepth 100000 in
set_option maxHeartbeats 1000000 in
theorem n_coolest (l : Launch) (G : va_G) (cy : Nat → ClassId) (ro : Nat) (ra : Nat → Nat) (σ : St) (hN : nB σ ≤ 5) (hm : ∀ j, j < 5 → mB σ j = 0 ∨ mB σ j = 1) (hbd : Bd (vB σ) (hB σ)) : RO l yL_extreme wsL_law { frames := 1, cells := 0, slots := 0, locals := 30 } (PB G cy (rowsW cy ro ra σ)) [.ref ro, .int 0] (some (.int (oi13 (colO (vB σ) (hB σ) (mB σ) (nB σ))))) := by
  refine RO.ofB (cc := cL_extreme) (maxL := 5) (ret := (some .int)) (by decide) (big_at 23 5 rfl) (Nat.le_of_ble_eq_true rfl) ?_
  intro p e s m below meth cq S9 hr hlocks hPB ls hl
  obtain ⟨hx, hb, hml, hown, hts⟩ := id S9
  obtain ⟨hP, hK⟩ := hPB
  have hl : lv_has ls 5 [(0, .ref ro), (1, .int 0)] := hl
  refine lv_bipush (v := (-13)) hx hb dL_extreme_0 (by decide) ?_
  refine lv_istore_n (lv' := [(2, .int (-13)), (0, .ref ro), (1, .int 0)]) hx hb dL_extreme_2 rfl hl (by decide) rfl (fun ls hl => ?_)
  refine lv_iconst (v := 0) hx hb dL_extreme_3 (by decide) ?_
  refine lv_istore_n (lv' := [(3, .int 0), (2, .int (-13)), (0, .ref ro), (1, .int 0)]) hx hb dL_extreme_4 rfl hl (by decide) rfl (fun ls hl => ?_)
  have L5 : ∀ (d k : Nat), k + d = nB σ → ∀ ls : Array Slot, lv_has ls 5 [(3, .int (nI k)), (2, .int (oi13 (colO (vB σ) (hB σ) (mB σ) k))), (1, .int 0), (0, .ref ro)] → W p l e ({ frames := 1, cells := 0, slots := 0, locals := 30 } : Room) s m ([.ref ro, .int 0] : List Value).toArray below meth cq s.heap [] 0 0 (roZ below ([.ref ro, .int 0] : List Value).toArray s (some (.int (oi13 (colO (vB σ) (hB σ) (mB σ) (nB σ)))))) (F0 m 5 ls []) := by
    intro d
    induction d with
    | zero =>
      intro k hk ls hl
      have hk9 : k = nB σ := by omega
      subst hk9
      refine lv_iload_n hx hb dL_extreme_5 rfl (lv_at hl 0 rfl) ?_
      refine lv_aload_n hx hb dL_extreme_6 rfl (lv_at hl 3 rfl) ?_
      refine r_len (Wc := [rowsW cy ro ra σ]) hx hb hK hP 0 rfl dL_extreme_7 ?_
      refine lv_icmp_ge (tgt := 86) hx hb dL_extreme_8 (by decide) (fun _ => ?_) (fun c9 => absurd (Int32.le_refl _) c9)
      refine lv_iload_n hx hb dL_extreme_86 rfl (lv_at hl 1 rfl) ?_
      exact ro_iret hx hb hr hlocks rfl dL_extreme_87
    | succ d ih =>
      intro k hk ls hl
      have hk9 : k < nB σ := by omega
      refine lv_iload_n hx hb dL_extreme_5 rfl (lv_at hl 0 rfl) ?_
      refine lv_aload_n hx hb dL_extreme_6 rfl (lv_at hl 3 rfl) ?_
      refine r_len (Wc := [rowsW cy ro ra σ]) hx hb hK hP 0 rfl dL_extreme_7 ?_
      refine lv_icmp_ge (tgt := 86) hx hb dL_extreme_8 (by decide) (fun c9 => absurd c9 (fun q => absurd ((nI_leI (by omega) (by omega)).mp q) (by omega))) (fun _ => ?_)
      refine lv_aload_n hx hb dL_extreme_11 rfl (lv_at hl 3 rfl) ?_
      refine lv_iload_n hx hb dL_extreme_12 rfl (lv_at hl 0 rfl) ?_
      refine r_row (Wc := [rowsW cy ro ra σ]) hx hb hK hP 0 rfl k rfl hk9 hN dL_extreme_13 ?_
      refine lv_iconst (v := 3) hx hb dL_extreme_14 (by decide) ?_
      refine r_get (Wc := [rowsW cy ro ra σ]) (v := mB σ k) hx hb hK hP 0 rfl k 3 rfl (by decide) hk9 rfl dL_extreme_15 ?_
      refine lv_iconst (v := 1) hx hb dL_extreme_16 (by decide) ?_
      rcases hm k (by omega) with m9 | m9
      · refine lv_icmp_ne (tgt := 32) hx hb dL_extreme_17 (by decide) (fun _ => ?_) (fun c9 => absurd c9 (by rw [m9]; decide))
        refine lv_iconst (v := 0) hx hb dL_extreme_32 (by decide) ?_
        refine lv_istore (lv' := [(4, .int 0), (3, .int (nI k)), (2, .int (oi13 (colO (vB σ) (hB σ) (mB σ) k))), (1, .int 0), (0, .ref ro)]) hx hb dL_extreme_33 hl (by decide) rfl (fun ls hl => ?_)
        refine lv_iload hx hb dL_extreme_35 (lv_at hl 0 rfl) ?_
        refine lv_if_eq (tgt := 78) hx hb dL_extreme_37 (by decide) (fun _ => ?_) (fun c9 => absurd (by decide) c9)
        refine lv_iload_n hx hb dL_extreme_78 rfl (lv_at hl 2 rfl) ?_
        refine lv_istore_n (lv' := [(2, .int (oi13 (colO (vB σ) (hB σ) (mB σ) k))), (4, .int 0), (3, .int (nI k)), (1, .int 0), (0, .ref ro)]) hx hb dL_extreme_79 rfl hl (by decide) rfl (fun ls hl => ?_)
        refine lv_iinc (v := nI (k + 1)) (lv' := [(3, .int (nI (k + 1))), (2, .int (oi13 (colO (vB σ) (hB σ) (mB σ) k))), (4, .int 0), (1, .int 0), (0, .ref ro)]) hx hb dL_extreme_80 hl (k := 2) rfl (m_inc _) (by decide) rfl (fun ls hl => ?_)
        refine lv_goto (tgt := 5) hx hb dL_extreme_83 (by decide) ?_
        have e5_2 : oi13 (colO (vB σ) (hB σ) (mB σ) (k + 1)) = oi13 (colO (vB σ) (hB σ) (mB σ) k) := (by simp only [colO]; rw [if_pos m9])
        exact ih (k + 1) (by omega) ls (by rw [e5_2]; exact lv_sub hl [0, 1, 3, 4] rfl)
      · refine lv_icmp_ne (tgt := 32) hx hb dL_extreme_17 (by decide) (fun c9 => absurd m9 c9) (fun _ => ?_)
        have m8 : ¬ mB σ k = 0 := by rw [m9]; decide
        refine lv_aload_n hx hb dL_extreme_20 rfl (lv_at hl 3 rfl) ?_
        refine lv_iload_n hx hb dL_extreme_21 rfl (lv_at hl 0 rfl) ?_
        refine r_row (Wc := [rowsW cy ro ra σ]) hx hb hK hP 0 rfl k rfl hk9 hN dL_extreme_22 ?_
        refine lv_iconst (v := 0) hx hb dL_extreme_23 (by decide) ?_
        refine r_get (Wc := [rowsW cy ro ra σ]) (v := vB σ k) hx hb hK hP 0 rfl k 0 rfl (by decide) hk9 rfl dL_extreme_24 ?_
        refine lv_if_le (tgt := 32) hx hb dL_extreme_25 (by decide) (fun c9 => ?_) (fun c9 => ?_)
        · refine lv_iconst (v := 0) hx hb dL_extreme_32 (by decide) ?_
          refine lv_istore (lv' := [(4, .int 0), (3, .int (nI k)), (2, .int (oi13 (colO (vB σ) (hB σ) (mB σ) k))), (1, .int 0), (0, .ref ro)]) hx hb dL_extreme_33 hl (by decide) rfl (fun ls hl => ?_)
          refine lv_iload hx hb dL_extreme_35 (lv_at hl 0 rfl) ?_
          refine lv_if_eq (tgt := 78) hx hb dL_extreme_37 (by decide) (fun _ => ?_) (fun c9 => absurd (by decide) c9)
          refine lv_iload_n hx hb dL_extreme_78 rfl (lv_at hl 2 rfl) ?_
          refine lv_istore_n (lv' := [(2, .int (oi13 (colO (vB σ) (hB σ) (mB σ) k))), (4, .int 0), (3, .int (nI k)), (1, .int 0), (0, .ref ro)]) hx hb dL_extreme_79 rfl hl (by decide) rfl (fun ls hl => ?_)
          refine lv_iinc (v := nI (k + 1)) (lv' := [(3, .int (nI (k + 1))), (2, .int (oi13 (colO (vB σ) (hB σ) (mB σ) k))), (4, .int 0), (1, .int 0), (0, .ref ro)]) hx hb dL_extreme_80 hl (k := 2) rfl (m_inc _) (by decide) rfl (fun ls hl => ?_)
          refine lv_goto (tgt := 5) hx hb dL_extreme_83 (by decide) ?_
          have e5_2 : oi13 (colO (vB σ) (hB σ) (mB σ) (k + 1)) = oi13 (colO (vB σ) (hB σ) (mB σ) k) := (by simp only [colO]; rw [if_neg m8, if_neg (show ¬ wet (vB σ) k = true from fun q => m_wet q c9)])
          exact ih (k + 1) (by omega) ls (by rw [e5_2]; exact lv_sub hl [0, 1, 3, 4] rfl)
        · refine lv_iconst (v := 1) hx hb dL_extreme_28 (by decide) ?_
          refine lv_goto (tgt := 33) hx hb dL_extreme_29 (by decide) ?_
          refine lv_istore (lv' := [(4, .int 1), (3, .int (nI k)), (2, .int (oi13 (colO (vB σ) (hB σ) (mB σ) k))), (1, .int 0), (0, .ref ro)]) hx hb dL_extreme_33 hl (by decide) rfl (fun ls hl => ?_)
          refine lv_iload hx hb dL_extreme_35 (lv_at hl 0 rfl) ?_
          refine lv_if_eq (tgt := 78) hx hb dL_extreme_37 (by decide) (fun c9 => absurd c9 (by decide)) (fun _ => ?_)
          have w9 : wet (vB σ) k = true := decide_eq_true c9
          cases hO : colO (vB σ) (hB σ) (mB σ) k with
          | none =>
            rw [hO] at hl
            have hl : lv_has ls 5 [(4, .int 1), (3, .int (nI k)), (2, .int (-13)), (1, .int 0), (0, .ref ro)] := hl
            refine lv_iload_n hx hb dL_extreme_40 rfl (lv_at hl 2 rfl) ?_
            refine lv_if_lt (tgt := 74) hx hb dL_extreme_41 (by decide) (fun _ => ?_) (fun c9 => absurd (by decide) c9)
            refine lv_iload_n hx hb dL_extreme_74 rfl (lv_at hl 1 rfl) ?_
            refine lv_goto (tgt := 79) hx hb dL_extreme_75 (by decide) ?_
            refine lv_istore_n (lv' := [(2, .int (nI k)), (4, .int 1), (3, .int (nI k)), (1, .int 0), (0, .ref ro)]) hx hb dL_extreme_79 rfl hl (by decide) rfl (fun ls hl => ?_)
            refine lv_iinc (v := nI (k + 1)) (lv' := [(3, .int (nI (k + 1))), (2, .int (nI k)), (4, .int 1), (1, .int 0), (0, .ref ro)]) hx hb dL_extreme_80 hl (k := 2) rfl (m_inc _) (by decide) rfl (fun ls hl => ?_)
            refine lv_goto (tgt := 5) hx hb dL_extreme_83 (by decide) ?_
            have e5_2 : oi13 (colO (vB σ) (hB σ) (mB σ) (k + 1)) = nI k := (by simp only [colO]; rw [if_neg m8, if_pos w9, hO]; rfl)
            exact ih (k + 1) (by omega) ls (by rw [e5_2]; exact lv_sub hl [0, 1, 3, 4] rfl)
          | some j =>
            have hj := colO_lt hO
            rw [hO] at hl
            have hl : lv_has ls 5 [(4, .int 1), (3, .int (nI k)), (2, .int (nI j)), (1, .int 0), (0, .ref ro)] := hl
            refine lv_iload_n hx hb dL_extreme_40 rfl (lv_at hl 2 rfl) ?_
            refine lv_if_lt (tgt := 74) hx hb dL_extreme_41 (by decide) (fun c9 => absurd c9 (fun q => absurd ((nI_ltI (a := j) (b := 0) (by omega) (by omega)).mp q) (Nat.not_lt_zero j))) (fun _ => ?_)
            refine lv_iload_n hx hb dL_extreme_44 rfl (lv_at hl 3 rfl) ?_
            refine lv_if_eq (tgt := 60) hx hb dL_extreme_45 (by decide) (fun _ => ?_) (fun c9 => absurd (by decide) c9)
            refine lv_aload_n hx hb dL_extreme_60 rfl (lv_at hl 4 rfl) ?_
            refine lv_iload_n hx hb dL_extreme_61 rfl (lv_at hl 2 rfl) ?_
            refine r_row (Wc := [rowsW cy ro ra σ]) hx hb hK hP 0 rfl j rfl (by omega) hN dL_extreme_62 ?_
            refine lv_aload_n hx hb dL_extreme_63 rfl (lv_at hl 4 rfl) ?_
            refine lv_iload_n hx hb dL_extreme_64 rfl (lv_at hl 1 rfl) ?_
            refine r_row (Wc := [rowsW cy ro ra σ]) hx hb hK hP 0 rfl k rfl hk9 hN dL_extreme_65 ?_
            refine m_ro (va_runS S9 (n_warmer l G cy (ra j) (ra k) (rowF σ j) (rowF σ k)) (bigS 2 hts (big_at 18 17 rfl) (big_at 0 2 rfl) (big_at 18 19 rfl) (big_at 18 18 rfl) rfl rfl (by decide +kernel) ⟨Nat.le_of_ble_eq_true rfl, Nat.le_of_ble_eq_true rfl⟩) ⟨fun b2 U g mk q => ⟨q.1, PB.blind U g mk b2 q.2⟩, fun U hU hW => ⟨rfl, PB.at hK (r_two hP (by omega) hk9) U hU hW⟩⟩ (g := F0 m _ ls _) rfl rfl hl.1 rfl (lv_room (Nat.le_of_ble_eq_true rfl)) dL_extreme_66 ⟨Nat.zero_le _, Nat.zero_le _⟩) ?_
            refine lv_lconst (v := 0) hx hb dL_extreme_69 (by decide) ?_
            have h9 : (wrm (rowF σ j) (rowF σ k) ≤ 0 ↔ ¬ hotter (vB σ) (hB σ) j k = true) := hot_long hbd (by omega) (by omega)
            by_cases z9 : hotter (vB σ) (hB σ) j k = true
            · refine W.lcmp hx hb dL_extreme_70 ?_
              refine lv_if_le (tgt := 78) hx hb dL_extreme_71 (by decide) (fun c9 => absurd c9 (fun q => (h9.mp ((lg_cmp_le _ _).mp q)) z9)) (fun _ => ?_)
              refine lv_iload_n hx hb dL_extreme_74 rfl (lv_at hl 1 rfl) ?_
              refine lv_goto (tgt := 79) hx hb dL_extreme_75 (by decide) ?_
              refine lv_istore_n (lv' := [(2, .int (nI k)), (4, .int 1), (3, .int (nI k)), (1, .int 0), (0, .ref ro)]) hx hb dL_extreme_79 rfl hl (by decide) rfl (fun ls hl => ?_)
              refine lv_iinc (v := nI (k + 1)) (lv' := [(3, .int (nI (k + 1))), (2, .int (nI k)), (4, .int 1), (1, .int 0), (0, .ref ro)]) hx hb dL_extreme_80 hl (k := 2) rfl (m_inc _) (by decide) rfl (fun ls hl => ?_)
              refine lv_goto (tgt := 5) hx hb dL_extreme_83 (by decide) ?_
              have e5_2 : oi13 (colO (vB σ) (hB σ) (mB σ) (k + 1)) = nI k := (by simp only [colO]; rw [if_neg m8, if_pos w9, hO]; simp only [z9]; rfl)
              exact ih (k + 1) (by omega) ls (by rw [e5_2]; exact lv_sub hl [0, 1, 3, 4] rfl)
            · refine W.lcmp hx hb dL_extreme_70 ?_
              refine lv_if_le (tgt := 78) hx hb dL_extreme_71 (by decide) (fun _ => ?_) (fun c9 => absurd ((lg_cmp_le _ _).mpr (h9.mpr z9)) c9)
              refine lv_iload_n hx hb dL_extreme_78 rfl (lv_at hl 2 rfl) ?_
              refine lv_istore_n (lv' := [(2, .int (nI j)), (4, .int 1), (3, .int (nI k)), (1, .int 0), (0, .ref ro)]) hx hb dL_extreme_79 rfl hl (by decide) rfl (fun ls hl => ?_)
              refine lv_iinc (v := nI (k + 1)) (lv' := [(3, .int (nI (k + 1))), (2, .int (nI j)), (4, .int 1), (1, .int 0), (0, .ref ro)]) hx hb dL_extreme_80 hl (k := 2) rfl (m_inc _) (by decide) rfl (fun ls hl => ?_)
              refine lv_goto (tgt := 5) hx hb dL_extreme_83 (by decide) ?_
              have e5_2 : oi13 (colO (vB σ) (hB σ) (mB σ) (k + 1)) = nI j := (by simp only [colO]; rw [if_neg m8, if_pos w9, hO]; exact congrArg oi13 (if_neg z9))
              exact ih (k + 1) (by omega) ls (by rw [e5_2]; exact lv_sub hl [0, 1, 3, 4] rfl)
  exact L5 (nB σ) 0 (by omega) ls (lv_sub hl [0, 1, 3, 2] rfl)
theorem share_u {v h : Nat → Int32} (H : Bd v h) {a b : Nat} (ha : a < 5) (hb : b < 5) (wa : wet v a = true) (hX : (h b).toInt * (v a).toInt ≤ (h a).toInt * (v b).toInt) : ¬ (v a + v b).toInt64 = 0 ∧ (if ((h a).toInt64 * (v b).toInt64 - (h b).toInt64 * (v a).toInt64) / (v a + v b).toInt64 < 20 then ((h a).toInt64 * (v b).toInt64 - (h b).toInt64 * (v a).toInt64) / (v a + v b).toInt64 else (20 : Int64)).toInt32 = units v h a b := by
  have w2 := ti_wet.mp wa
  obtain ⟨⟨a1, a2⟩, a3, a4⟩ := H a ha
  obtain ⟨⟨b1, b2⟩, b3, b4⟩ := H b hb
  obtain ⟨e1, l1, u1⟩ := H.mul ha hb
  obtain ⟨e2, l2, u2⟩ := H.mul hb ha
  have eS : (v a + v b).toInt = (v a).toInt + (v b).toInt := ti_add rfl rfl (by omega) (by omega)
  have eD : (h a * v b - h b * v a).toInt = (h a).toInt * (v b).toInt - (h b).toInt * (v a).toInt := H.diff ha hb
  have q1 : ((h a).toInt64 * (v b).toInt64).toInt = (h a).toInt * (v b).toInt := by
    rw [Int64.toInt_mul, Int32.toInt_toInt64, Int32.toInt_toInt64]
    exact Int.bmod_eq_of_le (by omega) (by omega)
  have q2 : ((h b).toInt64 * (v a).toInt64).toInt = (h b).toInt * (v a).toInt := by
    rw [Int64.toInt_mul, Int32.toInt_toInt64, Int32.toInt_toInt64]
    exact Int.bmod_eq_of_le (by omega) (by omega)
  have q3 : ((h a).toInt64 * (v b).toInt64 - (h b).toInt64 * (v a).toInt64).toInt = (h a).toInt * (v b).toInt - (h b).toInt * (v a).toInt := by
    rw [Int64.toInt_sub, q1, q2]
    exact Int.bmod_eq_of_le (by omega) (by omega)
  have s0 : ¬ (v a + v b).toInt64 = 0 := by
    intro z
    have z2 := congrArg Int64.toInt z
    rw [Int32.toInt_toInt64, eS, Int64.toInt_zero] at z2
    omega
  have s1 : ¬ v a + v b = 0 := by
    intro z
    have z2 := congrArg Int32.toInt z
    rw [eS, Int32.toInt_zero] at z2
    omega
  refine ⟨s0, ?_⟩
  have d3 : ((h a * v b - h b * v a) / (v a + v b)).toInt = ((h a).toInt * (v b).toInt - (h b).toInt * (v a).toInt) / ((v a).toInt + (v b).toInt) := ti_div eD eS (by omega) (by omega)
  have d6 : (((h a).toInt64 * (v b).toInt64 - (h b).toInt64 * (v a).toInt64) / (v a + v b).toInt64) = ((h a * v b - h b * v a) / (v a + v b)).toInt64 := by
    rw [← Int64.toInt_inj, Int32.toInt_toInt64, d3, Int64.toInt_div_of_ne_right _ _ (by
      intro z
      have z2 := congrArg Int64.toInt z
      rw [Int32.toInt_toInt64, eS, show (-1 : Int64).toInt = -1 from by decide] at z2
      omega), q3, Int32.toInt_toInt64, eS]
    exact Int.tdiv_eq_ediv_of_nonneg (by omega)
  rw [d6]
  unfold units
  rw [if_neg s1]
  have l20 : ((h a * v b - h b * v a) / (v a + v b)).toInt64 < 20 ↔ (h a * v b - h b * v a) / (v a + v b) < 20 := by
    rw [Int64.lt_iff_toInt_lt, Int32.toInt_toInt64, Int32.lt_iff_toInt_lt, show (20 : Int64).toInt = 20 from by decide, show (20 : Int32).toInt = 20 from by decide]
  by_cases z : (h a * v b - h b * v a) / (v a + v b) < 20
  · rw [if_pos (l20.mpr z), if_pos z]
    simp
  · rw [if_neg (fun q => z (l20.mp q)), if_neg z]
    decide
set_option maxRecDepth 100000 in
set_option maxHeartbeats 1000000 in
theorem n_share (l : Launch) (G : va_G) (cy : Nat → ClassId) (ro : Nat) (ra : Nat → Nat) (σ : St) (a : Nat) (b : Nat) (hN : nB σ ≤ 5) (hm : ∀ j, j < 5 → mB σ j = 0 ∨ mB σ j = 1) (hbd : Bd (vB σ) (hB σ)) (hO : hotO (vB σ) (hB σ) (mB σ) (nB σ) = some a) (hC : colO (vB σ) (hB σ) (mB σ) (nB σ) = some b) : RO l yL_share wsL_law { frames := 2, cells := 0, slots := 0, locals := 70 } (PB G cy (rowsW cy ro ra σ)) [.ref ro] (some (.int (units (vB σ) (hB σ) a b))) := by
  refine RO.ofB (cc := cL_share) (maxL := 3) (ret := (some .int)) (by decide) (big_at 24 4 rfl) (Nat.le_of_ble_eq_true rfl) ?_
  intro p e s m below meth cq S9 hr hlocks hPB ls hl
  obtain ⟨hx, hb, hml, hown, hts⟩ := id S9
  obtain ⟨hP, hK⟩ := hPB
  have hl : lv_has ls 3 [(0, .ref ro)] := hl
  have ha := hotO_lt hO
  have hb2 := colO_lt hC
  obtain ⟨s0, eU⟩ := share_u hbd (show a < 5 by omega) (show b < 5 by omega) (hotO_wet hO) (hotO_max hbd hN hO b hb2 (colO_me hC) (colO_wet hC))
  refine lv_aload_n hx hb dL_share_0 rfl (lv_at hl 0 rfl) ?_
  refine lv_aload_n hx hb dL_share_1 rfl (lv_at hl 0 rfl) ?_
  refine lv_iconst (v := 1) hx hb dL_share_2 (by decide) ?_
  refine m_ro (va_runS S9 (n_hottest l G cy ro ra σ hN hm hbd) (bigS 2 hts (big_at 23 3 rfl) (big_at 0 2 rfl) (big_at 23 5 rfl) (big_at 23 4 rfl) rfl rfl (by decide +kernel) ⟨Nat.le_of_ble_eq_true rfl, Nat.le_of_ble_eq_true rfl⟩) ⟨fun b2 U g mk q => ⟨q.1, PB.blind U g mk b2 q.2⟩, fun U hU hW => ⟨rfl, PB.at hK hP U hU hW⟩⟩ (g := F0 m _ ls _) rfl rfl hl.1 rfl (lv_room (Nat.le_of_ble_eq_true rfl)) dL_share_3 ⟨Nat.zero_le _, Nat.zero_le _⟩) ?_
  refine lv_t0 (show (oi13 (hotO (vB σ) (hB σ) (mB σ) (nB σ))) = nI a from by rw [hO]; rfl) ?_
  refine r_row (Wc := [rowsW cy ro ra σ]) hx hb hK hP 0 rfl a rfl ha hN dL_share_6 ?_
  refine lv_astore_n (lv' := [(1, .ref (ra a)), (0, .ref ro)]) hx hb dL_share_7 rfl hl (by decide) rfl (fun ls hl => ?_)
  refine lv_aload_n hx hb dL_share_8 rfl (lv_at hl 1 rfl) ?_
  refine lv_aload_n hx hb dL_share_9 rfl (lv_at hl 1 rfl) ?_
  refine lv_iconst (v := 0) hx hb dL_share_10 (by decide) ?_
  refine m_ro (va_runS S9 (n_coolest l G cy ro ra σ hN hm hbd) (bigS 2 hts (big_at 23 3 rfl) (big_at 0 2 rfl) (big_at 23 5 rfl) (big_at 23 4 rfl) rfl rfl (by decide +kernel) ⟨Nat.le_of_ble_eq_true rfl, Nat.le_of_ble_eq_true rfl⟩) ⟨fun b2 U g mk q => ⟨q.1, PB.blind U g mk b2 q.2⟩, fun U hU hW => ⟨rfl, PB.at hK hP U hU hW⟩⟩ (g := F0 m _ ls _) rfl rfl hl.1 rfl (lv_room (Nat.le_of_ble_eq_true rfl)) dL_share_11 ⟨Nat.zero_le _, Nat.zero_le _⟩) ?_
  refine lv_t0 (show (oi13 (colO (vB σ) (hB σ) (mB σ) (nB σ))) = nI b from by rw [hC]; rfl) ?_
  refine r_row (Wc := [rowsW cy ro ra σ]) hx hb hK hP 0 rfl b rfl hb2 hN dL_share_14 ?_
  refine lv_astore_n (lv' := [(2, .ref (ra b)), (1, .ref (ra a)), (0, .ref ro)]) hx hb dL_share_15 rfl hl (by decide) rfl (fun ls hl => ?_)
  refine lv_ldc2 hx hb hown (hts _ (big_at 24 5 rfl : Cond.constantLong RL 195 20 ∈ wsL_law)) dL_share_16 ?_
  refine lv_aload_n hx hb dL_share_19 rfl (lv_at hl 1 rfl) ?_
  refine lv_aload_n hx hb dL_share_20 rfl (lv_at hl 0 rfl) ?_
  refine m_ro (va_runS S9 (n_warmer l G cy (ra a) (ra b) (rowF σ a) (rowF σ b)) (bigS 2 hts (big_at 18 17 rfl) (big_at 0 2 rfl) (big_at 18 19 rfl) (big_at 18 18 rfl) rfl rfl (by decide +kernel) ⟨Nat.le_of_ble_eq_true rfl, Nat.le_of_ble_eq_true rfl⟩) ⟨fun b2 U g mk q => ⟨q.1, PB.blind U g mk b2 q.2⟩, fun U hU hW => ⟨rfl, PB.at hK (r_two hP ha hb2) U hU hW⟩⟩ (g := F0 m _ ls _) rfl rfl hl.1 rfl (lv_room (Nat.le_of_ble_eq_true rfl)) dL_share_21 ⟨Nat.zero_le _, Nat.zero_le _⟩) ?_
  refine lv_aload_n hx hb dL_share_24 rfl (lv_at hl 1 rfl) ?_
  refine lv_iconst (v := 0) hx hb dL_share_25 (by decide) ?_
  refine r_get (Wc := [rowsW cy ro ra σ]) (v := vB σ a) hx hb hK hP 0 rfl a 0 rfl (by decide) ha rfl dL_share_26 ?_
  refine lv_aload_n hx hb dL_share_27 rfl (lv_at hl 0 rfl) ?_
  refine lv_iconst (v := 0) hx hb dL_share_28 (by decide) ?_
  refine r_get (Wc := [rowsW cy ro ra σ]) (v := vB σ b) hx hb hK hP 0 rfl b 0 rfl (by decide) hb2 rfl dL_share_29 ?_
  refine lv_iadd hx hb dL_share_30 ?_
  refine lv_i2l hx hb dL_share_31 rfl ?_
  refine lv_ldiv hx hb dL_share_32 s0 ?_
  refine va_mmin_long hx hb (hml.trans hl.1.symm) hown (hts _ (big_at 24 6 rfl)) (hts _ (big_at 24 7 rfl)) (hts _ (big_at 6 21 rfl)) (hts _ (big_at 24 8 rfl)) (Nat.le_of_ble_eq_true rfl) (Nat.le_of_ble_eq_true rfl) (Nat.zero_le _) (Nat.zero_le _) dL_share_33 ?_
  refine lv_l2i (v := units (vB σ) (hB σ) a b) hx hb dL_share_36 eU ?_
  exact ro_iret hx hb hr hlocks rfl dL_share_37
/-- what a tick on rows tells: who has left -/
def gnF (b : Nat → Bool) : Nat → Int32
  | 0 => 0
  | k + 1 => if b k = true then gnF b k ||| ((1 : Int32) <<< (nI k &&& 31)) else gnF b k
def gnB (τ : St) (k : Nat) : Bool := decide (¬ mB (defectN τ k) k = mB (defectN τ (k + 1)) k)
/-- a method that works on rows and on an array of what is lost, whose numbers are not told -/
def WT (l : Launch) (y : MethodName) (rm : Room) (G : va_G) (cy : Nat → ClassId) (ro : Nat) (ra : Nat → Nat) (lo : Nat) (σ τ : St) (r : Int32) : Prop := ∀ f : Nat → Int32, Met l y wsL_law rm (va_Pc [.ref ro, .ref lo] (fun U => PB G cy (fl [rowsW cy ro ra σ, [(lo, .inl (cy 2, 2, .inl f))]]) U ∧ va_D (fun _ => True) (fl [rowsW cy ro ra σ, [(lo, .inl (cy 2, 2, .inl f))]]))) (fun _ st o t => ∃ f' : Nat → Int32, o = .returned (some (.int r)) ∧ va_P G vwCl (fl [rowsW cy ro ra τ, [(lo, .inl (cy 2, 2, .inl f'))]]) t.heap ∧ va_F (wA (fl [rowsW cy ro ra σ, [(lo, .inl (cy 2, 2, .inl f))]])) st t) 0 0 (wA (fl [rowsW cy ro ra σ, [(lo, .inl (cy 2, 2, .inl f))]]))
abbrev wtZ (below : List Frame) (a : Array Value) (s : State) (G : va_G) (cy : Nat → ClassId) (ro : Nat) (ra : Nat → Nat) (lo : Nat) (σ τ : St) (f : Nat → Int32) (r : Int32) : State → Prop := MQ below (fun _ st o t => ∃ f' : Nat → Int32, o = .returned (some (.int r)) ∧ va_P G vwCl (fl [rowsW cy ro ra τ, [(lo, .inl (cy 2, 2, .inl f'))]]) t.heap ∧ va_F (wA (fl [rowsW cy ro ra σ, [(lo, .inl (cy 2, 2, .inl f))]])) st t) a s 0 0 (wA (fl [rowsW cy ro ra σ, [(lo, .inl (cy 2, 2, .inl f))]]))
theorem WT.ofB {l : Launch} {y : MethodName} {rm : Room} {G : va_G} {cy : Nat → ClassId} {ro : Nat} {ra : Nat → Nat} {lo : Nat} {σ τ : St} {r : Int32} {cc : ByteArray} {maxL : Nat} {ret : Option FieldType} (hy : plainName y.cls = true) (hc : Cond.code y cc maxL ret ∈ wsL_law) (hn : 2 ≤ maxL)
    (body : ∀ (f : Nat → Int32) (p : Program) (e : Env) (s : State) (m : MethodId) (below : List Frame) (meth : Method) (c : Code), CallFix p m c cc maxL s #[.ref ro, .ref lo] wsL_law y.cls → meth.sig.returnType = ret → meth.locks = false → PB G cy (fl [rowsW cy ro ra σ, [(lo, .inl (cy 2, 2, .inl f))]]) s → va_D (wA (fl [rowsW cy ro ra σ, [(lo, .inl (cy 2, 2, .inl f))]])) (fl [rowsW cy ro ra σ, [(lo, .inl (cy 2, 2, .inl f))]]) → va_S (wA (fl [rowsW cy ro ra σ, [(lo, .inl (cy 2, 2, .inl f))]])) s.heap s.heap [] → ∀ ls : Array Slot, lv_has ls maxL [(0, .ref ro), (1, .ref lo)] →
      W p l e rm s m #[.ref ro, .ref lo] below meth c s.heap [] 0 0 (wtZ below #[.ref ro, .ref lo] s G cy ro ra lo σ τ f r) (F0 m 0 ls [])) : WT l y rm G cy ro ra lo σ τ r := by
  intro f
  refine Met.conv (ws := Cond.code y cc maxL ret :: wsL_law) (Met.ofW hy rfl ?_) (fun w hw => by rcases List.mem_cons.mp hw with e | e; exact e ▸ hc; exact e) ⟨Nat.le_refl _, Nat.le_refl _, Nat.le_refl _, Nat.le_refl _⟩ (fun _ _ hp => hp) (fun _ _ _ _ _ q => q) (Nat.le_refl _) (Nat.le_refl _) (fun _ hq => hq)
  intro p e s m args below meth c s₁ B hml hv
  obtain ⟨rfl, hP, hD⟩ := hv
  rw [lg_entry_eq]
  exact body f p e s m below meth c ⟨B.exec, B.bytes, hml, findClass_of_methodNamed B.named, fun w hw => atoms_spec B.pre w (List.mem_cons_of_mem _ hw)⟩ B.returns B.notSynchronized hP hD.own va_S.rf _ (lv_entry [.ref ro, .ref lo] hn)
/-- a row's litres, heat, membership are written -/
def putV (σ : St) (k : Nat) (x : Int32) : St := ((nB σ, upd (vB σ) k x, hB σ, pB σ, mB σ), σ.2)
def putH (σ : St) (k : Nat) (x : Int32) : St := ((nB σ, vB σ, upd (hB σ) k x, pB σ, mB σ), σ.2)
def putM (σ : St) (k : Nat) (x : Int32) : St := ((nB σ, vB σ, hB σ, pB σ, upd (mB σ) k x), σ.2)
theorem putV_row {σ : St} {k : Nat} {x : Int32} : rowF (putV σ k x) k = upd (rowF σ k) 0 x ∧ ∀ i, ¬ i = k → rowF (putV σ k x) i = rowF σ i :=
  ⟨funext fun j => match j with
    | 0 => (m_updS : upd (vB σ) k x k = x)
    | 1 => rfl
    | 2 => rfl
    | 3 => rfl
    | j + 4 => by simp [rowF, upd], fun i hi => funext fun j => match j with
    | 0 => (m_updN hi : upd (vB σ) k x i = vB σ i)
    | 1 => rfl
    | 2 => rfl
    | 3 => rfl
    | j + 4 => by simp [rowF]⟩
theorem putH_row {σ : St} {k : Nat} {x : Int32} : rowF (putH σ k x) k = upd (rowF σ k) 1 x ∧ ∀ i, ¬ i = k → rowF (putH σ k x) i = rowF σ i :=
  ⟨funext fun j => match j with
    | 0 => rfl
    | 1 => (m_updS : upd (hB σ) k x k = x)
    | 2 => rfl
    | 3 => rfl
    | j + 4 => by simp [rowF, upd], fun i hi => funext fun j => match j with
    | 0 => rfl
    | 1 => (m_updN hi : upd (hB σ) k x i = hB σ i)
    | 2 => rfl
    | 3 => rfl
    | j + 4 => by simp [rowF]⟩
theorem putM_row {σ : St} {k : Nat} {x : Int32} : rowF (putM σ k x) k = upd (rowF σ k) 3 x ∧ ∀ i, ¬ i = k → rowF (putM σ k x) i = rowF σ i :=
  ⟨funext fun j => match j with
    | 0 => rfl
    | 1 => rfl
    | 2 => rfl
    | 3 => (m_updS : upd (mB σ) k x k = x)
    | j + 4 => by simp [rowF, upd], fun i hi => funext fun j => match j with
    | 0 => rfl
    | 1 => rfl
    | 2 => rfl
    | 3 => (m_updN hi : upd (mB σ) k x i = mB σ i)
    | j + 4 => by simp [rowF]⟩
/-- rows show litres, heat, plug and membership alone -/
theorem rows_as {cy : Nat → ClassId} {ro : Nat} {ra : Nat → Nat} {σ τ : St} (h0 : nB σ = nB τ) (h1 : vB σ = vB τ) (h2 : hB σ = hB τ) (h3 : pB σ = pB τ) (h4 : mB σ = mB τ) : rowsW cy ro ra σ = rowsW cy ro ra τ := by
  unfold rowsW rowA rowF
  rw [h0, h1, h2, h3, h4]
theorem lose_rows {cy : Nat → ClassId} {ro : Nat} {ra : Nat → Nat} {τ : St} {k : Nat} (w : wet (vB τ) k = true) : rowsW cy ro ra (lose1 k τ) = rowsW cy ro ra (putH τ k (hB τ k - (hB τ k - 20 * vB τ k) / 10)) := by
  rw [show lose1 k τ = _ from if_pos w]
  exact rows_as rfl rfl rfl rfl rfl
theorem drain_rows {cy : Nat → ClassId} {ro : Nat} {ra : Nat → Nat} {τ : St} {k : Nat} (w : wet (vB τ) k = true) (p : pB τ k = 0) : rowsW cy ro ra (drain1 k τ) = rowsW cy ro ra (putH (putV τ k (vB τ k - drq (vB τ k))) k (hB τ k - hB τ k * drq (vB τ k) / vB τ k)) := by
  rw [show drain1 k τ = _ from (if_pos w).trans (if_pos p), show heatOf (vB τ) (hB τ) k (drq (vB τ k)) = hB τ k * drq (vB τ k) / vB τ k from if_pos w]
  exact rows_as rfl rfl rfl rfl rfl
theorem sha_rows {cy : Nat → ClassId} {ro : Nat} {ra : Nat → Nat} {τ : St} {a b : Nat} (h2 : 2 ≤ cntW (vB τ) (mB τ) (nB τ)) (hO : hotO (vB τ) (hB τ) (mB τ) (nB τ) = some a) (hC : colO (vB τ) (hB τ) (mB τ) (nB τ) = some b) : rowsW cy ro ra (shaS τ) = rowsW cy ro ra (putH (putH τ a (hB τ a - units (vB τ) (hB τ) a b)) b (upd (hB τ) a (hB τ a - units (vB τ) (hB τ) a b) b + units (vB τ) (hB τ) a b)) := by
  refine rows_as rfl rfl ?_ rfl rfl
  show shH (vB τ) (hB τ) (mB τ) (nB τ) = _
  unfold shH
  rw [if_pos h2, hO, hC]
  rfl
theorem sha_no {cy : Nat → ClassId} {ro : Nat} {ra : Nat → Nat} {τ : St} (h2 : ¬ 2 ≤ cntW (vB τ) (mB τ) (nB τ)) : rowsW cy ro ra (shaS τ) = rowsW cy ro ra τ := by
  refine rows_as rfl rfl ?_ rfl rfl
  exact if_neg h2
theorem leav_rows {cy : Nat → ClassId} {ro : Nat} {ra : Nat → Nat} {τ : St} {k : Nat} : rowsW cy ro ra (leavS k τ) = rowsW cy ro ra (putM τ k 0) := rows_as rfl rfl rfl rfl rfl
theorem def_leave {τ : St} {k : Nat} (m : ¬ mB τ k = 0) (h : ¬ wet (vB τ) k = true ∨ ¬ 25 ≤ rdeg (hB τ k) (vB τ k)) : defect1 k τ = leavS k τ := by
  unfold defect1
  rw [if_neg m]
  by_cases w : wet (vB τ) k = true
  · rw [if_pos w, if_neg (h.resolve_left (fun q => q w))]
  · rw [if_neg w]
theorem def_stay {τ : St} {k : Nat} (w : wet (vB τ) k = true) (h : 25 ≤ rdeg (hB τ k) (vB τ k)) : defect1 k τ = τ := by
  by_cases m : mB τ k = 0
  · exact if_pos m
  · exact (if_neg m).trans ((if_pos w).trans (if_pos h))
theorem two_le {x : Int32} : 2 ≤ x ↔ ¬ x ≤ 1 := by
  rw [Int32.le_iff_toInt_le, Int32.le_iff_toInt_le, show (2 : Int32).toInt = 2 from by decide, show (1 : Int32).toInt = 1 from by decide]
  omega
theorem wet_of {v h : Nat → Int32} (H : Bd v h) {k : Nat} (hk : k < 5) (hz : ¬ v k = 0) : wet v k = true := by
  refine ti_wet.mpr ?_
  obtain ⟨⟨h1, h2⟩, -⟩ := H k hk
  have : ¬ (v k).toInt = 0 := fun z => hz (by rw [← Int32.toInt_inj, z, Int32.toInt_zero])
  omega
theorem gn_yes {b : Nat → Bool} {k : Nat} (h : b k = true) : gnF b (k + 1) = gnF b k ||| ((1 : Int32) <<< (nI k &&& 31)) := if_pos h
theorem gn_no {b : Nat → Bool} {k : Nat} (h : ¬ b k = true) : gnF b (k + 1) = gnF b k := if_neg h
