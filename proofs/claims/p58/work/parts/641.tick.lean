/-! a tick over rows -/
set_option maxRecDepth 100000 in
set_option maxHeartbeats 1000000 in
theorem n_tick (l : Launch) (G : va_G) (cy : Nat → ClassId) (ro : Nat) (ra : Nat → Nat) (lo : Nat) (σ : St) (n0 : Nat) (hI : Inv n0 σ) : WT l yL_tick { frames := 4, cells := 0, slots := 0, locals := 140 } G cy ro ra lo σ (tickS σ) (gnF (gnB (shaS (draS (losS σ)))) (nB σ)) := by
  refine WT.ofB (cc := cL_tick) (maxL := 8) (ret := (some .int)) (by decide) (big_at 24 17 rfl) (Nat.le_of_ble_eq_true rfl) ?_
  intro f p e s m below meth cq S9 hr hlocks hPB hD hS ls hl
  obtain ⟨hx, hb, hml, hown, hts⟩ := id S9
  obtain ⟨hP, hK⟩ := hPB
  have hN := hI.1.1
  refine lv_aload_n hx hb dL_tick_0 rfl (lv_at hl 0 rfl) ?_
  refine lv_astore_n (lv' := [(2, .ref ro), (0, .ref ro), (1, .ref lo)]) hx hb dL_tick_1 rfl hl (by decide) rfl (fun ls hl => ?_)
  refine lv_aload_n hx hb dL_tick_2 rfl (lv_at hl 0 rfl) ?_
  refine r_len (Wc := [rowsW cy ro ra σ, [(lo, .inl (cy 2, 2, .inl f))]]) hx hb hK hP 0 rfl dL_tick_3 ?_
  refine lv_istore_n (lv' := [(3, .int (nI (nB σ))), (2, .ref ro), (0, .ref ro), (1, .ref lo)]) hx hb dL_tick_4 rfl hl (by decide) rfl (fun ls hl => ?_)
  refine lv_iconst (v := 0) hx hb dL_tick_5 (by decide) ?_
  refine lv_istore (lv' := [(4, .int 0), (3, .int (nI (nB σ))), (2, .ref ro), (0, .ref ro), (1, .ref lo)]) hx hb dL_tick_6 hl (by decide) rfl (fun ls hl => ?_)
  have L8 : ∀ (d k : Nat), k + d = nB σ → ∀ (f9 : Nat → Int32) (H : Heap) (locs : List Loc), va_P G vwCl (fl [rowsW cy ro ra (loseN σ k), [(lo, .inl (cy 2, 2, .inl f9))]]) H → va_D (wA (fl [rowsW cy ro ra σ, [(lo, .inl (cy 2, 2, .inl f))]])) (fl [rowsW cy ro ra (loseN σ k), [(lo, .inl (cy 2, 2, .inl f9))]]) → va_S (wA (fl [rowsW cy ro ra σ, [(lo, .inl (cy 2, 2, .inl f))]])) s.heap H locs → ∀ ls : Array Slot, lv_has ls 8 [(4, .int (nI k)), (3, .int (nI (nB σ))), (2, .ref ro), (1, .ref lo), (0, .ref ro)] → W p l e ({ frames := 4, cells := 0, slots := 0, locals := 140 } : Room) s m #[.ref ro, .ref lo] below meth cq H locs 0 0 (wtZ below #[.ref ro, .ref lo] s G cy ro ra lo σ (tickS σ) f (gnF (gnB (shaS (draS (losS σ)))) (nB σ))) (F0 m 8 ls []) := by
    intro d
    induction d with
    | zero =>
      intro k hk f9 H locs hP hD hS ls hl
      have hk9 : k = nB σ := by omega
      subst hk9
      have hP : va_P G vwCl (fl [rowsW cy ro ra (losS σ), [(lo, .inl (cy 2, 2, .inl f9))]]) H := hP
      have hD : va_D (wA (fl [rowsW cy ro ra σ, [(lo, .inl (cy 2, 2, .inl f))]])) (fl [rowsW cy ro ra (losS σ), [(lo, .inl (cy 2, 2, .inl f9))]]) := hD
      refine lv_iload hx hb dL_tick_8 (lv_at hl 0 rfl) ?_
      refine lv_iload_n hx hb dL_tick_10 rfl (lv_at hl 1 rfl) ?_
      refine lv_icmp_ge (tgt := 67) hx hb dL_tick_11 (by decide) (fun _ => ?_) (fun c9 => absurd (Int32.le_refl _) c9)
      refine lv_aload_n hx hb dL_tick_67 rfl (lv_at hl 4 rfl) ?_
      refine lv_astore_n (lv' := [(2, .ref ro), (4, .int (nI (nB σ))), (3, .int (nI (nB σ))), (1, .ref lo), (0, .ref ro)]) hx hb dL_tick_68 rfl hl (by decide) rfl (fun ls hl => ?_)
      refine lv_aload_n hx hb dL_tick_69 rfl (lv_at hl 0 rfl) ?_
      refine r_len (Wc := [rowsW cy ro ra (losS σ), [(lo, .inl (cy 2, 2, .inl f9))]]) hx hb hK hP 0 rfl dL_tick_70 ?_
      refine lv_t0 (show (nI (nB (losS σ))) = nI (nB σ) from congrArg nI (loseN_nB σ (nB σ))) ?_
      refine lv_istore_n (lv' := [(3, .int (nI (nB σ))), (2, .ref ro), (4, .int (nI (nB σ))), (1, .ref lo), (0, .ref ro)]) hx hb dL_tick_71 rfl hl (by decide) rfl (fun ls hl => ?_)
      refine lv_iconst (v := 0) hx hb dL_tick_72 (by decide) ?_
      refine lv_istore (lv' := [(4, .int 0), (3, .int (nI (nB σ))), (2, .ref ro), (1, .ref lo), (0, .ref ro)]) hx hb dL_tick_73 hl (by decide) rfl (fun ls hl => ?_)
      have L75 : ∀ (d k : Nat), k + d = nB σ → ∀ (f9 : Nat → Int32) (H : Heap) (locs : List Loc), va_P G vwCl (fl [rowsW cy ro ra (drainN (losS σ) k), [(lo, .inl (cy 2, 2, .inl f9))]]) H → va_D (wA (fl [rowsW cy ro ra σ, [(lo, .inl (cy 2, 2, .inl f))]])) (fl [rowsW cy ro ra (drainN (losS σ) k), [(lo, .inl (cy 2, 2, .inl f9))]]) → va_S (wA (fl [rowsW cy ro ra σ, [(lo, .inl (cy 2, 2, .inl f))]])) s.heap H locs → ∀ ls : Array Slot, lv_has ls 8 [(4, .int (nI k)), (3, .int (nI (nB σ))), (2, .ref ro), (1, .ref lo), (0, .ref ro)] → W p l e ({ frames := 4, cells := 0, slots := 0, locals := 140 } : Room) s m #[.ref ro, .ref lo] below meth cq H locs 0 0 (wtZ below #[.ref ro, .ref lo] s G cy ro ra lo σ (tickS σ) f (gnF (gnB (shaS (draS (losS σ)))) (nB σ))) (F0 m 75 ls []) := by
        intro d
        induction d with
        | zero =>
          intro k hk f9 H locs hP hD hS ls hl
          have hk9 : k = nB σ := by omega
          subst hk9
          have n2 : nB (losS σ) = nB σ := loseN_nB σ _
          have hP : va_P G vwCl (fl [rowsW cy ro ra (draS (losS σ)), [(lo, .inl (cy 2, 2, .inl f9))]]) H := by rw [show draS (losS σ) = drainN (losS σ) (nB σ) from congrArg (drainN (losS σ)) n2]; exact hP
          have hD : va_D (wA (fl [rowsW cy ro ra σ, [(lo, .inl (cy 2, 2, .inl f))]])) (fl [rowsW cy ro ra (draS (losS σ)), [(lo, .inl (cy 2, 2, .inl f9))]]) := by rw [show draS (losS σ) = drainN (losS σ) (nB σ) from congrArg (drainN (losS σ)) n2]; exact hD
          obtain ⟨ω, eω⟩ : ∃ z : St, z = draS (losS σ) := ⟨_, rfl⟩
          rw [← eω] at hP hD
          have nω : nB ω = nB σ := by rw [eω]; exact (drainN_nB (losS σ) _).trans n2
          have hIω : Inv n0 ω := by rw [eω]; exact inv_draS (inv_losS hI)
          have hN : nB ω ≤ 5 := by omega
          have hm := hIω.1.m01
          have hbd := hIω.bd
          have J : ∀ (f9 : Nat → Int32) (H : Heap) (locs : List Loc), va_P G vwCl (fl [rowsW cy ro ra (shaS ω), [(lo, .inl (cy 2, 2, .inl f9))]]) H → va_D (wA (fl [rowsW cy ro ra σ, [(lo, .inl (cy 2, 2, .inl f))]])) (fl [rowsW cy ro ra (shaS ω), [(lo, .inl (cy 2, 2, .inl f9))]]) → va_S (wA (fl [rowsW cy ro ra σ, [(lo, .inl (cy 2, 2, .inl f))]])) s.heap H locs → ∀ ls : Array Slot, lv_has ls 8 [(1, .ref lo), (0, .ref ro)] → W p l e ({ frames := 4, cells := 0, slots := 0, locals := 140 } : Room) s m #[.ref ro, .ref lo] below meth cq H locs 0 0 (wtZ below #[.ref ro, .ref lo] s G cy ro ra lo σ (tickS σ) f (gnF (gnB (shaS (draS (losS σ)))) (nB σ))) (F0 m 218 ls []) := by
            intro f9 H locs hP hD hS ls hl
            have n3 : nB (shaS ω) = nB σ := nω
            have hIs : Inv n0 (shaS ω) := inv_shaS hIω
            refine lv_iconst (v := 0) hx hb dL_tick_218 (by decide) ?_
            refine lv_istore_n (lv' := [(2, .int 0), (1, .ref lo), (0, .ref ro)]) hx hb dL_tick_219 rfl hl (by decide) rfl (fun ls hl => ?_)
            refine lv_iconst (v := 0) hx hb dL_tick_220 (by decide) ?_
            refine lv_istore_n (lv' := [(3, .int 0), (2, .int 0), (1, .ref lo), (0, .ref ro)]) hx hb dL_tick_221 rfl hl (by decide) rfl (fun ls hl => ?_)
            have L222 : ∀ (d k : Nat), k + d = nB σ → ∀ (f9 : Nat → Int32) (H : Heap) (locs : List Loc), va_P G vwCl (fl [rowsW cy ro ra (defectN (shaS ω) k), [(lo, .inl (cy 2, 2, .inl f9))]]) H → va_D (wA (fl [rowsW cy ro ra σ, [(lo, .inl (cy 2, 2, .inl f))]])) (fl [rowsW cy ro ra (defectN (shaS ω) k), [(lo, .inl (cy 2, 2, .inl f9))]]) → va_S (wA (fl [rowsW cy ro ra σ, [(lo, .inl (cy 2, 2, .inl f))]])) s.heap H locs → ∀ ls : Array Slot, lv_has ls 8 [(3, .int (nI k)), (2, .int (gnF (gnB (shaS ω)) k)), (1, .ref lo), (0, .ref ro)] → W p l e ({ frames := 4, cells := 0, slots := 0, locals := 140 } : Room) s m #[.ref ro, .ref lo] below meth cq H locs 0 0 (wtZ below #[.ref ro, .ref lo] s G cy ro ra lo σ (tickS σ) f (gnF (gnB (shaS (draS (losS σ)))) (nB σ))) (F0 m 222 ls []) := by
              intro d
              induction d with
              | zero =>
                intro k hk f9 H locs hP hD hS ls hl
                have hk9 : k = nB σ := by omega
                subst hk9
                refine lv_iload_n hx hb dL_tick_222 rfl (lv_at hl 0 rfl) ?_
                refine lv_aload_n hx hb dL_tick_223 rfl (lv_at hl 3 rfl) ?_
                refine r_len (Wc := [rowsW cy ro ra (defectN (shaS ω) (nB σ)), [(lo, .inl (cy 2, 2, .inl f9))]]) hx hb hK hP 0 rfl dL_tick_224 ?_
                refine lv_t0 (show (nI (nB (defectN (shaS ω) (nB σ)))) = nI (nB σ) from congrArg nI ((defectN_nB (shaS ω) (nB σ)).trans n3)) ?_
                refine lv_icmp_ge (tgt := 279) hx hb dL_tick_225 (by decide) (fun _ => ?_) (fun c9 => absurd (Int32.le_refl _) c9)
                refine lv_iload_n hx hb dL_tick_279 rfl (lv_at hl 1 rfl) ?_
                have eT : rowsW cy ro ra (tickS σ) = rowsW cy ro ra (defectN (shaS ω) (nB σ)) := by rw [eω]; show rowsW cy ro ra (defS (shaS (draS (losS σ)))) = _; rw [show defS (shaS (draS (losS σ))) = defectN (shaS (draS (losS σ))) (nB σ) from congrArg (defectN _) (by rw [← eω]; exact n3)]
                rw [← eT] at hP
                rw [eω]
                exact W.iret hx hb hr (fun t ht _ => ⟨f9, rfl, by rw [ht]; exact hP, hS.F ht⟩) hS.2.2 dL_tick_280 hlocks
              | succ d ih =>
                intro k hk f9 H locs hP hD hS ls hl
                have hk9 : k < nB σ := by omega
                obtain ⟨τ, eτ⟩ : ∃ z : St, z = defectN (shaS ω) k := ⟨_, rfl⟩
                rw [← eτ] at hP hD
                have hnτ : nB τ = nB σ := by rw [eτ]; exact (defectN_nB (shaS ω) k).trans n3
                have hkτ : k < nB τ := by rw [hnτ]; exact hk9
                have hN : nB τ ≤ 5 := by omega
                have hIτ : Inv n0 τ := by rw [eτ]; exact inv_defectN hIs k
                have hbd := hIτ.bd
                have eK : defectN (shaS ω) (k + 1) = defect1 k τ := by rw [eτ]; rfl
                refine lv_iload_n hx hb dL_tick_222 rfl (lv_at hl 0 rfl) ?_
                refine lv_aload_n hx hb dL_tick_223 rfl (lv_at hl 3 rfl) ?_
                refine r_len (Wc := [rowsW cy ro ra τ, [(lo, .inl (cy 2, 2, .inl f9))]]) hx hb hK hP 0 rfl dL_tick_224 ?_
                refine lv_t0 (show (nI (nB (τ))) = nI (nB σ) from congrArg nI (hnτ)) ?_
                refine lv_icmp_ge (tgt := 279) hx hb dL_tick_225 (by decide) (fun c9 => absurd c9 (fun q => absurd ((nI_leI (by omega) (by omega)).mp q) (by omega))) (fun _ => ?_)
                refine lv_aload_n hx hb dL_tick_228 rfl (lv_at hl 3 rfl) ?_
                refine lv_iload_n hx hb dL_tick_229 rfl (lv_at hl 0 rfl) ?_
                refine r_row (Wc := [rowsW cy ro ra τ, [(lo, .inl (cy 2, 2, .inl f9))]]) hx hb hK hP 0 rfl k rfl hkτ hN dL_tick_230 ?_
                refine lv_iconst (v := 3) hx hb dL_tick_231 (by decide) ?_
                refine r_get (Wc := [rowsW cy ro ra τ, [(lo, .inl (cy 2, 2, .inl f9))]]) (v := mB τ k) hx hb hK hP 0 rfl k 3 rfl (by decide) hkτ rfl dL_tick_232 ?_
                refine lv_iconst (v := 1) hx hb dL_tick_233 (by decide) ?_
                rcases hIτ.1.m01 k (by omega) with m9 | m9
                · refine lv_icmp_ne (tgt := 273) hx hb dL_tick_234 (by decide) (fun _ => ?_) (fun c9 => absurd c9 (by rw [m9]; decide))
                  have eD : defect1 k τ = τ := if_pos m9
                  refine lv_iinc (v := nI (k + 1)) (lv' := [(3, .int (nI (k + 1))), (2, .int (gnF (gnB (shaS ω)) k)), (1, .ref lo), (0, .ref ro)]) hx hb dL_tick_273 hl (k := 0) rfl (m_inc _) (by decide) rfl (fun ls hl => ?_)
                  refine lv_goto (tgt := 222) hx hb dL_tick_276 (by decide) ?_
                  have gB : ¬ gnB (shaS ω) k = true := by unfold gnB; rw [eK, eD, ← eτ]; simp
                  have eR : rowsW cy ro ra (defectN (shaS ω) (k + 1)) = rowsW cy ro ra (τ) := by rw [eK, eD]
                  rw [← eR] at hP hD
                  have e222_2 : gnF (gnB (shaS ω)) (k + 1) = gnF (gnB (shaS ω)) k := gn_no gB
                  exact ih (k + 1) (by omega) _ _ _ hP hD hS ls (by rw [e222_2]; exact lv_sub hl [0, 1, 2, 3] rfl)
                · refine lv_icmp_ne (tgt := 273) hx hb dL_tick_234 (by decide) (fun c9 => absurd m9 c9) (fun _ => ?_)
                  have m8 : ¬ mB τ k = 0 := by rw [m9]; decide
                  refine lv_aload_n hx hb dL_tick_237 rfl (lv_at hl 3 rfl) ?_
                  refine lv_iload_n hx hb dL_tick_238 rfl (lv_at hl 0 rfl) ?_
                  refine r_row (Wc := [rowsW cy ro ra τ, [(lo, .inl (cy 2, 2, .inl f9))]]) hx hb hK hP 0 rfl k rfl hkτ hN dL_tick_239 ?_
                  refine lv_iconst (v := 0) hx hb dL_tick_240 (by decide) ?_
                  refine r_get (Wc := [rowsW cy ro ra τ, [(lo, .inl (cy 2, 2, .inl f9))]]) (v := vB τ k) hx hb hK hP 0 rfl k 0 rfl (by decide) hkτ rfl dL_tick_241 ?_
                  refine lv_if_eq (tgt := 261) hx hb dL_tick_242 (by decide) (fun c9 => ?_) (fun c9 => ?_)
                  · have eD : defect1 k τ = leavS k τ := def_leave m8 (Or.inl (fun q => m_wet q (by rw [c9]; exact Int32.le_refl 0)))
                    refine lv_aload_n hx hb dL_tick_261 rfl (lv_at hl 3 rfl) ?_
                    refine lv_iload_n hx hb dL_tick_262 rfl (lv_at hl 0 rfl) ?_
                    refine r_row (Wc := [rowsW cy ro ra τ, [(lo, .inl (cy 2, 2, .inl f9))]]) hx hb hK hP 0 rfl k rfl hkτ hN dL_tick_263 ?_
                    refine lv_iconst (v := 3) hx hb dL_tick_264 (by decide) ?_
                    refine lv_iconst (v := 0) hx hb dL_tick_265 (by decide) ?_
                    refine r_put (Wc := [rowsW cy ro ra τ, [(lo, .inl (cy 2, 2, .inl f9))]]) (τ := putM τ k 0) (Wn := [rowsW cy ro ra (putM τ k 0), [(lo, .inl (cy 2, 2, .inl f9))]]) hx hb hK hP hD hS 0 rfl k 3 rfl (by decide) hkτ rfl putM_row.1 putM_row.2 rfl dL_tick_266 (fun H locs hP hD hS => ?_)
                    refine lv_iload_n hx hb dL_tick_267 rfl (lv_at hl 1 rfl) ?_
                    refine lv_iconst (v := 1) hx hb dL_tick_268 (by decide) ?_
                    refine lv_iload_n hx hb dL_tick_269 rfl (lv_at hl 0 rfl) ?_
                    refine lv_ishl hx hb dL_tick_270 ?_
                    refine lv_ior hx hb dL_tick_271 ?_
                    refine lv_istore_n (lv' := [(2, .int ((gnF (gnB (shaS ω)) k) ||| (1 <<< ((nI k) &&& 31)))), (3, .int (nI k)), (1, .ref lo), (0, .ref ro)]) hx hb dL_tick_272 rfl hl (by decide) rfl (fun ls hl => ?_)
                    refine lv_iinc (v := nI (k + 1)) (lv' := [(3, .int (nI (k + 1))), (2, .int ((gnF (gnB (shaS ω)) k) ||| (1 <<< ((nI k) &&& 31)))), (1, .ref lo), (0, .ref ro)]) hx hb dL_tick_273 hl (k := 1) rfl (m_inc _) (by decide) rfl (fun ls hl => ?_)
                    refine lv_goto (tgt := 222) hx hb dL_tick_276 (by decide) ?_
                    have gB : gnB (shaS ω) k = true := by unfold gnB; rw [eK, eD, ← eτ]; exact decide_eq_true (fun z => m8 (z.trans m_updS))
                    have eR : rowsW cy ro ra (defectN (shaS ω) (k + 1)) = rowsW cy ro ra (putM τ k 0) := by rw [eK, eD]; exact leav_rows
                    rw [← eR] at hP hD
                    have e222_2 : gnF (gnB (shaS ω)) (k + 1) = (gnF (gnB (shaS ω)) k) ||| (1 <<< ((nI k) &&& 31)) := gn_yes gB
                    exact ih (k + 1) (by omega) _ _ _ hP hD hS ls (by rw [e222_2]; exact lv_sub hl [0, 1, 2, 3] rfl)
                  · have w9 := wet_of hbd (show k < 5 by omega) c9
                    refine lv_aload_n hx hb dL_tick_245 rfl (lv_at hl 3 rfl) ?_
                    refine lv_iload_n hx hb dL_tick_246 rfl (lv_at hl 0 rfl) ?_
                    refine r_row (Wc := [rowsW cy ro ra τ, [(lo, .inl (cy 2, 2, .inl f9))]]) hx hb hK hP 0 rfl k rfl hkτ hN dL_tick_247 ?_
                    refine lv_iconst (v := 1) hx hb dL_tick_248 (by decide) ?_
                    refine r_get (Wc := [rowsW cy ro ra τ, [(lo, .inl (cy 2, 2, .inl f9))]]) (v := hB τ k) hx hb hK hP 0 rfl k 1 rfl (by decide) hkτ rfl dL_tick_249 ?_
                    refine lv_aload_n hx hb dL_tick_250 rfl (lv_at hl 3 rfl) ?_
                    refine lv_iload_n hx hb dL_tick_251 rfl (lv_at hl 0 rfl) ?_
                    refine r_row (Wc := [rowsW cy ro ra τ, [(lo, .inl (cy 2, 2, .inl f9))]]) hx hb hK hP 0 rfl k rfl hkτ hN dL_tick_252 ?_
                    refine lv_iconst (v := 0) hx hb dL_tick_253 (by decide) ?_
                    refine r_get (Wc := [rowsW cy ro ra τ, [(lo, .inl (cy 2, 2, .inl f9))]]) (v := vB τ k) hx hb hK hP 0 rfl k 0 rfl (by decide) hkτ rfl dL_tick_254 ?_
                    refine lv_idiv hx hb dL_tick_255 (m_nz (m_wet w9)) ?_
                    refine lv_bipush (v := 25) hx hb dL_tick_256 (by decide) ?_
                    refine lv_icmp_ge (tgt := 273) hx hb dL_tick_258 (by decide) (fun c8 => ?_) (fun c8 => ?_)
                    · have eD : defect1 k τ = τ := def_stay w9 (by rw [m_rdeg (m_wet w9)]; exact c8)
                      refine lv_iinc (v := nI (k + 1)) (lv' := [(3, .int (nI (k + 1))), (2, .int (gnF (gnB (shaS ω)) k)), (1, .ref lo), (0, .ref ro)]) hx hb dL_tick_273 hl (k := 0) rfl (m_inc _) (by decide) rfl (fun ls hl => ?_)
                      refine lv_goto (tgt := 222) hx hb dL_tick_276 (by decide) ?_
                      have gB : ¬ gnB (shaS ω) k = true := by unfold gnB; rw [eK, eD, ← eτ]; simp
                      have eR : rowsW cy ro ra (defectN (shaS ω) (k + 1)) = rowsW cy ro ra (τ) := by rw [eK, eD]
                      rw [← eR] at hP hD
                      have e222_2 : gnF (gnB (shaS ω)) (k + 1) = gnF (gnB (shaS ω)) k := gn_no gB
                      exact ih (k + 1) (by omega) _ _ _ hP hD hS ls (by rw [e222_2]; exact lv_sub hl [0, 1, 2, 3] rfl)
                    · have eD : defect1 k τ = leavS k τ := def_leave m8 (Or.inr (by rw [m_rdeg (m_wet w9)]; exact c8))
                      refine lv_aload_n hx hb dL_tick_261 rfl (lv_at hl 3 rfl) ?_
                      refine lv_iload_n hx hb dL_tick_262 rfl (lv_at hl 0 rfl) ?_
                      refine r_row (Wc := [rowsW cy ro ra τ, [(lo, .inl (cy 2, 2, .inl f9))]]) hx hb hK hP 0 rfl k rfl hkτ hN dL_tick_263 ?_
                      refine lv_iconst (v := 3) hx hb dL_tick_264 (by decide) ?_
                      refine lv_iconst (v := 0) hx hb dL_tick_265 (by decide) ?_
                      refine r_put (Wc := [rowsW cy ro ra τ, [(lo, .inl (cy 2, 2, .inl f9))]]) (τ := putM τ k 0) (Wn := [rowsW cy ro ra (putM τ k 0), [(lo, .inl (cy 2, 2, .inl f9))]]) hx hb hK hP hD hS 0 rfl k 3 rfl (by decide) hkτ rfl putM_row.1 putM_row.2 rfl dL_tick_266 (fun H locs hP hD hS => ?_)
                      refine lv_iload_n hx hb dL_tick_267 rfl (lv_at hl 1 rfl) ?_
                      refine lv_iconst (v := 1) hx hb dL_tick_268 (by decide) ?_
                      refine lv_iload_n hx hb dL_tick_269 rfl (lv_at hl 0 rfl) ?_
                      refine lv_ishl hx hb dL_tick_270 ?_
                      refine lv_ior hx hb dL_tick_271 ?_
                      refine lv_istore_n (lv' := [(2, .int ((gnF (gnB (shaS ω)) k) ||| (1 <<< ((nI k) &&& 31)))), (3, .int (nI k)), (1, .ref lo), (0, .ref ro)]) hx hb dL_tick_272 rfl hl (by decide) rfl (fun ls hl => ?_)
                      refine lv_iinc (v := nI (k + 1)) (lv' := [(3, .int (nI (k + 1))), (2, .int ((gnF (gnB (shaS ω)) k) ||| (1 <<< ((nI k) &&& 31)))), (1, .ref lo), (0, .ref ro)]) hx hb dL_tick_273 hl (k := 1) rfl (m_inc _) (by decide) rfl (fun ls hl => ?_)
                      refine lv_goto (tgt := 222) hx hb dL_tick_276 (by decide) ?_
                      have gB : gnB (shaS ω) k = true := by unfold gnB; rw [eK, eD, ← eτ]; exact decide_eq_true (fun z => m8 (z.trans m_updS))
                      have eR : rowsW cy ro ra (defectN (shaS ω) (k + 1)) = rowsW cy ro ra (putM τ k 0) := by rw [eK, eD]; exact leav_rows
                      rw [← eR] at hP hD
                      have e222_2 : gnF (gnB (shaS ω)) (k + 1) = (gnF (gnB (shaS ω)) k) ||| (1 <<< ((nI k) &&& 31)) := gn_yes gB
                      exact ih (k + 1) (by omega) _ _ _ hP hD hS ls (by rw [e222_2]; exact lv_sub hl [0, 1, 2, 3] rfl)
            exact L222 (nB σ) 0 (by omega) _ _ _ hP hD hS ls (lv_sub hl [0, 1, 2, 3] rfl)
          refine lv_iload hx hb dL_tick_75 (lv_at hl 0 rfl) ?_
          refine lv_iload_n hx hb dL_tick_77 rfl (lv_at hl 1 rfl) ?_
          refine lv_icmp_ge (tgt := 173) hx hb dL_tick_78 (by decide) (fun _ => ?_) (fun c9 => absurd (Int32.le_refl _) c9)
          refine lv_aload_n hx hb dL_tick_173 rfl (lv_at hl 4 rfl) ?_
          refine m_ro (va_runS S9 (n_wetMembers l G cy ro ra ω hN hm) (bigS 1 hts (big_at 23 23 rfl) (big_at 0 2 rfl) (big_at 24 1 rfl) (big_at 24 0 rfl) rfl rfl (by decide +kernel) ⟨Nat.le_of_ble_eq_true rfl, Nat.le_of_ble_eq_true rfl⟩) ⟨fun b2 U g mk q => ⟨q.1, PB.blind U g mk b2 q.2⟩, fun U hU hW => ⟨rfl, PB.at hK (PpartC (Wc := [rowsW cy ro ra ω, [(lo, .inl (cy 2, 2, .inl f9))]]) (cs := [rowsW cy ro ra ω]) hP [0] rfl) U hU hW⟩⟩ (g := F0 m _ ls _) rfl rfl hl.1 rfl (lv_room (Nat.le_of_ble_eq_true rfl)) dL_tick_174 ⟨Nat.zero_le _, Nat.zero_le _⟩) ?_
          refine lv_iconst (v := 1) hx hb dL_tick_177 (by decide) ?_
          refine lv_icmp_le (tgt := 218) hx hb dL_tick_178 (by decide) (fun c9 => ?_) (fun c9 => ?_)
          · have eR : rowsW cy ro ra (shaS ω) = rowsW cy ro ra ω := sha_no (fun q => (two_le.mp q) c9)
            rw [← eR] at hP hD
            exact J _ _ _ hP hD hS ls (lv_sub hl [3, 4] rfl)
          · have h2 := two_le.mpr c9
            obtain ⟨a, hO⟩ := hotO_some (h := hB ω) hN h2
            obtain ⟨b, hC⟩ := colO_some (h := hB ω) hN h2
            have ha := hotO_lt hO
            have hb2 := colO_lt hC
            refine lv_aload_n hx hb dL_tick_181 rfl (lv_at hl 4 rfl) ?_
            refine m_ro (va_runS S9 (n_share l G cy ro ra ω a b hN hm hbd hO hC) (bigS 1 hts (big_at 24 2 rfl) (big_at 0 2 rfl) (big_at 24 4 rfl) (big_at 24 3 rfl) rfl rfl (by decide +kernel) ⟨Nat.le_of_ble_eq_true rfl, Nat.le_of_ble_eq_true rfl⟩) ⟨fun b2 U g mk q => ⟨q.1, PB.blind U g mk b2 q.2⟩, fun U hU hW => ⟨rfl, PB.at hK (PpartC (Wc := [rowsW cy ro ra ω, [(lo, .inl (cy 2, 2, .inl f9))]]) (cs := [rowsW cy ro ra ω]) hP [0] rfl) U hU hW⟩⟩ (g := F0 m _ ls _) rfl rfl hl.1 rfl (lv_room (Nat.le_of_ble_eq_true rfl)) dL_tick_182 ⟨Nat.zero_le _, Nat.zero_le _⟩) ?_
            refine lv_istore_n (lv' := [(2, .int (units (vB ω) (hB ω) a b)), (4, .int (nI (nB σ))), (3, .int (nI (nB σ))), (1, .ref lo), (0, .ref ro)]) hx hb dL_tick_185 rfl hl (by decide) rfl (fun ls hl => ?_)
            refine lv_aload_n hx hb dL_tick_186 rfl (lv_at hl 4 rfl) ?_
            refine lv_iconst (v := 1) hx hb dL_tick_187 (by decide) ?_
            refine m_ro (va_runS S9 (n_hottest l G cy ro ra ω hN hm hbd) (bigS 2 hts (big_at 23 3 rfl) (big_at 0 2 rfl) (big_at 23 5 rfl) (big_at 23 4 rfl) rfl rfl (by decide +kernel) ⟨Nat.le_of_ble_eq_true rfl, Nat.le_of_ble_eq_true rfl⟩) ⟨fun b2 U g mk q => ⟨q.1, PB.blind U g mk b2 q.2⟩, fun U hU hW => ⟨rfl, PB.at hK (PpartC (Wc := [rowsW cy ro ra ω, [(lo, .inl (cy 2, 2, .inl f9))]]) (cs := [rowsW cy ro ra ω]) hP [0] rfl) U hU hW⟩⟩ (g := F0 m _ ls _) rfl rfl hl.1 rfl (lv_room (Nat.le_of_ble_eq_true rfl)) dL_tick_188 ⟨Nat.zero_le _, Nat.zero_le _⟩) ?_
            refine lv_t0 (show (oi13 (hotO (vB ω) (hB ω) (mB ω) (nB ω))) = nI a from by rw [hO]; rfl) ?_
            refine lv_istore_n (lv' := [(3, .int (nI a)), (2, .int (units (vB ω) (hB ω) a b)), (4, .int (nI (nB σ))), (1, .ref lo), (0, .ref ro)]) hx hb dL_tick_191 rfl hl (by decide) rfl (fun ls hl => ?_)
            refine lv_aload_n hx hb dL_tick_192 rfl (lv_at hl 4 rfl) ?_
            refine lv_iconst (v := 0) hx hb dL_tick_193 (by decide) ?_
            refine m_ro (va_runS S9 (n_coolest l G cy ro ra ω hN hm hbd) (bigS 2 hts (big_at 23 3 rfl) (big_at 0 2 rfl) (big_at 23 5 rfl) (big_at 23 4 rfl) rfl rfl (by decide +kernel) ⟨Nat.le_of_ble_eq_true rfl, Nat.le_of_ble_eq_true rfl⟩) ⟨fun b2 U g mk q => ⟨q.1, PB.blind U g mk b2 q.2⟩, fun U hU hW => ⟨rfl, PB.at hK (PpartC (Wc := [rowsW cy ro ra ω, [(lo, .inl (cy 2, 2, .inl f9))]]) (cs := [rowsW cy ro ra ω]) hP [0] rfl) U hU hW⟩⟩ (g := F0 m _ ls _) rfl rfl hl.1 rfl (lv_room (Nat.le_of_ble_eq_true rfl)) dL_tick_194 ⟨Nat.zero_le _, Nat.zero_le _⟩) ?_
            refine lv_t0 (show (oi13 (colO (vB ω) (hB ω) (mB ω) (nB ω))) = nI b from by rw [hC]; rfl) ?_
            refine lv_istore (lv' := [(4, .int (nI b)), (3, .int (nI a)), (2, .int (units (vB ω) (hB ω) a b)), (1, .ref lo), (0, .ref ro)]) hx hb dL_tick_197 hl (by decide) rfl (fun ls hl => ?_)
            refine lv_aload_n hx hb dL_tick_199 rfl (lv_at hl 4 rfl) ?_
            refine lv_iload_n hx hb dL_tick_200 rfl (lv_at hl 1 rfl) ?_
            refine r_row (Wc := [rowsW cy ro ra ω, [(lo, .inl (cy 2, 2, .inl f9))]]) hx hb hK hP 0 rfl a rfl ha hN dL_tick_201 ?_
            refine lv_iconst (v := 1) hx hb dL_tick_202 (by decide) ?_
            refine lv_dup2_11 hx hb dL_tick_203 rfl rfl ?_
            refine r_get (Wc := [rowsW cy ro ra ω, [(lo, .inl (cy 2, 2, .inl f9))]]) (v := hB ω a) hx hb hK hP 0 rfl a 1 rfl (by decide) ha rfl dL_tick_204 ?_
            refine lv_iload_n hx hb dL_tick_205 rfl (lv_at hl 2 rfl) ?_
            refine lv_isub hx hb dL_tick_206 ?_
            refine r_put (Wc := [rowsW cy ro ra ω, [(lo, .inl (cy 2, 2, .inl f9))]]) (τ := putH ω a (hB ω a - units (vB ω) (hB ω) a b)) (Wn := [rowsW cy ro ra (putH ω a (hB ω a - units (vB ω) (hB ω) a b)), [(lo, .inl (cy 2, 2, .inl f9))]]) hx hb hK hP hD hS 0 rfl a 1 rfl (by decide) ha rfl putH_row.1 putH_row.2 rfl dL_tick_207 (fun H locs hP hD hS => ?_)
            refine lv_aload_n hx hb dL_tick_208 rfl (lv_at hl 4 rfl) ?_
            refine lv_iload hx hb dL_tick_209 (lv_at hl 0 rfl) ?_
            refine r_row (Wc := [rowsW cy ro ra (putH ω a (hB ω a - units (vB ω) (hB ω) a b)), [(lo, .inl (cy 2, 2, .inl f9))]]) hx hb hK hP 0 rfl b rfl hb2 hN dL_tick_211 ?_
            refine lv_iconst (v := 1) hx hb dL_tick_212 (by decide) ?_
            refine lv_dup2_11 hx hb dL_tick_213 rfl rfl ?_
            refine r_get (Wc := [rowsW cy ro ra (putH ω a (hB ω a - units (vB ω) (hB ω) a b)), [(lo, .inl (cy 2, 2, .inl f9))]]) (v := upd (hB ω) a (hB ω a - units (vB ω) (hB ω) a b) b) hx hb hK hP 0 rfl b 1 rfl (by decide) hb2 rfl dL_tick_214 ?_
            refine lv_iload_n hx hb dL_tick_215 rfl (lv_at hl 2 rfl) ?_
            refine lv_iadd hx hb dL_tick_216 ?_
            refine r_put (Wc := [rowsW cy ro ra (putH ω a (hB ω a - units (vB ω) (hB ω) a b)), [(lo, .inl (cy 2, 2, .inl f9))]]) (τ := putH (putH ω a (hB ω a - units (vB ω) (hB ω) a b)) b (upd (hB ω) a (hB ω a - units (vB ω) (hB ω) a b) b + units (vB ω) (hB ω) a b)) (Wn := [rowsW cy ro ra (putH (putH ω a (hB ω a - units (vB ω) (hB ω) a b)) b (upd (hB ω) a (hB ω a - units (vB ω) (hB ω) a b) b + units (vB ω) (hB ω) a b)), [(lo, .inl (cy 2, 2, .inl f9))]]) hx hb hK hP hD hS 0 rfl b 1 rfl (by decide) hb2 rfl putH_row.1 putH_row.2 rfl dL_tick_217 (fun H locs hP hD hS => ?_)
            have eR : rowsW cy ro ra (shaS ω) = rowsW cy ro ra (putH (putH ω a (hB ω a - units (vB ω) (hB ω) a b)) b (upd (hB ω) a (hB ω a - units (vB ω) (hB ω) a b) b + units (vB ω) (hB ω) a b)) := sha_rows h2 hO hC
            rw [← eR] at hP hD
            exact J _ _ _ hP hD hS ls (lv_sub hl [3, 4] rfl)
        | succ d ih =>
          intro k hk f9 H locs hP hD hS ls hl
          have hk9 : k < nB σ := by omega
          obtain ⟨τ, eτ⟩ : ∃ z : St, z = drainN (losS σ) k := ⟨_, rfl⟩
          rw [← eτ] at hP hD
          have hnτ : nB τ = nB σ := by rw [eτ]; exact (drainN_nB (losS σ) k).trans (loseN_nB σ _)
          have hkτ : k < nB τ := by rw [hnτ]; exact hk9
          have hN : nB τ ≤ 5 := by omega
          refine lv_iload hx hb dL_tick_75 (lv_at hl 0 rfl) ?_
          refine lv_iload_n hx hb dL_tick_77 rfl (lv_at hl 1 rfl) ?_
          refine lv_icmp_ge (tgt := 173) hx hb dL_tick_78 (by decide) (fun c9 => absurd c9 (fun q => absurd ((nI_leI (by omega) (by omega)).mp q) (by omega))) (fun _ => ?_)
          refine lv_aload_n hx hb dL_tick_81 rfl (lv_at hl 2 rfl) ?_
          refine lv_iload hx hb dL_tick_82 (lv_at hl 0 rfl) ?_
          refine r_row (Wc := [rowsW cy ro ra τ, [(lo, .inl (cy 2, 2, .inl f9))]]) hx hb hK hP 0 rfl k rfl hkτ hN dL_tick_84 ?_
          refine lv_astore (lv' := [(5, .ref (ra k)), (4, .int (nI k)), (3, .int (nI (nB σ))), (2, .ref ro), (1, .ref lo), (0, .ref ro)]) hx hb dL_tick_85 hl (by decide) rfl (fun ls hl => ?_)
          refine lv_aload hx hb dL_tick_87 (lv_at hl 0 rfl) ?_
          refine lv_iconst (v := 0) hx hb dL_tick_89 (by decide) ?_
          refine r_get (Wc := [rowsW cy ro ra τ, [(lo, .inl (cy 2, 2, .inl f9))]]) (v := vB τ k) hx hb hK hP 0 rfl k 0 rfl (by decide) hkτ rfl dL_tick_90 ?_
          refine lv_if_le (tgt := 167) hx hb dL_tick_91 (by decide) (fun c9 => ?_) (fun c9 => ?_)
          · refine lv_iinc (v := nI (k + 1)) (lv' := [(4, .int (nI (k + 1))), (5, .ref (ra k)), (3, .int (nI (nB σ))), (2, .ref ro), (1, .ref lo), (0, .ref ro)]) hx hb dL_tick_167 hl (k := 1) rfl (m_inc _) (by decide) rfl (fun ls hl => ?_)
            refine lv_goto (tgt := 75) hx hb dL_tick_170 (by decide) ?_
            have eR : rowsW cy ro ra (drainN (losS σ) (k + 1)) = rowsW cy ro ra (τ) := by rw [show drainN (losS σ) (k + 1) = drain1 k (drainN (losS σ) k) from rfl, ← eτ, show drain1 k τ = τ from if_neg (fun q => m_wet q c9)]
            rw [← eR] at hP hD
            exact ih (k + 1) (by omega) _ _ _ hP hD hS ls (lv_sub hl [0, 2, 3, 4, 5] rfl)
          · have w9 : wet (vB τ) k = true := decide_eq_true c9
            refine lv_aload hx hb dL_tick_94 (lv_at hl 0 rfl) ?_
            refine lv_iconst (v := 2) hx hb dL_tick_96 (by decide) ?_
            refine r_get (Wc := [rowsW cy ro ra τ, [(lo, .inl (cy 2, 2, .inl f9))]]) (v := pB τ k) hx hb hK hP 0 rfl k 2 rfl (by decide) hkτ rfl dL_tick_97 ?_
            refine lv_if_ne (tgt := 167) hx hb dL_tick_98 (by decide) (fun c8 => ?_) (fun c8 => ?_)
            · refine lv_iinc (v := nI (k + 1)) (lv' := [(4, .int (nI (k + 1))), (5, .ref (ra k)), (3, .int (nI (nB σ))), (2, .ref ro), (1, .ref lo), (0, .ref ro)]) hx hb dL_tick_167 hl (k := 1) rfl (m_inc _) (by decide) rfl (fun ls hl => ?_)
              refine lv_goto (tgt := 75) hx hb dL_tick_170 (by decide) ?_
              have eR : rowsW cy ro ra (drainN (losS σ) (k + 1)) = rowsW cy ro ra (τ) := by rw [show drainN (losS σ) (k + 1) = drain1 k (drainN (losS σ) k) from rfl, ← eτ, show drain1 k τ = τ from (if_pos w9).trans (if_neg c8)]
              rw [← eR] at hP hD
              exact ih (k + 1) (by omega) _ _ _ hP hD hS ls (lv_sub hl [0, 2, 3, 4, 5] rfl)
            · have p9 : pB τ k = 0 := c8
              refine lv_aload hx hb dL_tick_101 (lv_at hl 0 rfl) ?_
              refine lv_iconst (v := 0) hx hb dL_tick_103 (by decide) ?_
              refine r_get (Wc := [rowsW cy ro ra τ, [(lo, .inl (cy 2, 2, .inl f9))]]) (v := vB τ k) hx hb hK hP 0 rfl k 0 rfl (by decide) hkτ rfl dL_tick_104 ?_
              refine lv_iconst (v := 3) hx hb dL_tick_105 (by decide) ?_
              refine lv_icmp_ge (tgt := 116) hx hb dL_tick_106 (by decide) (fun c7 => ?_) (fun c7 => ?_)
              · refine lv_iconst (v := 3) hx hb dL_tick_116 (by decide) ?_
                refine lv_t0 (show 3 = drq (vB τ k) from (if_neg (Int32.not_lt.mpr c7)).symm) ?_
                refine lv_istore (lv' := [(6, .int (drq (vB τ k))), (5, .ref (ra k)), (4, .int (nI k)), (3, .int (nI (nB σ))), (2, .ref ro), (1, .ref lo), (0, .ref ro)]) hx hb dL_tick_117 hl (by decide) rfl (fun ls hl => ?_)
                refine lv_aload hx hb dL_tick_119 (lv_at hl 1 rfl) ?_
                refine lv_iconst (v := 1) hx hb dL_tick_121 (by decide) ?_
                refine r_get (Wc := [rowsW cy ro ra τ, [(lo, .inl (cy 2, 2, .inl f9))]]) (v := hB τ k) hx hb hK hP 0 rfl k 1 rfl (by decide) hkτ rfl dL_tick_122 ?_
                refine lv_iload hx hb dL_tick_123 (lv_at hl 0 rfl) ?_
                refine lv_imul hx hb dL_tick_125 ?_
                refine lv_aload hx hb dL_tick_126 (lv_at hl 1 rfl) ?_
                refine lv_iconst (v := 0) hx hb dL_tick_128 (by decide) ?_
                refine r_get (Wc := [rowsW cy ro ra τ, [(lo, .inl (cy 2, 2, .inl f9))]]) (v := vB τ k) hx hb hK hP 0 rfl k 0 rfl (by decide) hkτ rfl dL_tick_129 ?_
                refine lv_idiv hx hb dL_tick_130 (m_nz (m_wet w9)) ?_
                refine lv_istore (lv' := [(7, .int (hB τ k * drq (vB τ k) / vB τ k)), (6, .int (drq (vB τ k))), (5, .ref (ra k)), (4, .int (nI k)), (3, .int (nI (nB σ))), (2, .ref ro), (1, .ref lo), (0, .ref ro)]) hx hb dL_tick_131 hl (by decide) rfl (fun ls hl => ?_)
                refine lv_aload hx hb dL_tick_133 (lv_at hl 2 rfl) ?_
                refine lv_iconst (v := 0) hx hb dL_tick_135 (by decide) ?_
                refine lv_dup2_11 hx hb dL_tick_136 rfl rfl ?_
                refine r_get (Wc := [rowsW cy ro ra τ, [(lo, .inl (cy 2, 2, .inl f9))]]) (v := vB τ k) hx hb hK hP 0 rfl k 0 rfl (by decide) hkτ rfl dL_tick_137 ?_
                refine lv_iload hx hb dL_tick_138 (lv_at hl 1 rfl) ?_
                refine lv_isub hx hb dL_tick_140 ?_
                refine r_put (Wc := [rowsW cy ro ra τ, [(lo, .inl (cy 2, 2, .inl f9))]]) (τ := putV τ k (vB τ k - drq (vB τ k))) (Wn := [rowsW cy ro ra (putV τ k (vB τ k - drq (vB τ k))), [(lo, .inl (cy 2, 2, .inl f9))]]) hx hb hK hP hD hS 0 rfl k 0 rfl (by decide) hkτ rfl putV_row.1 putV_row.2 rfl dL_tick_141 (fun H locs hP hD hS => ?_)
                refine lv_aload hx hb dL_tick_142 (lv_at hl 2 rfl) ?_
                refine lv_iconst (v := 1) hx hb dL_tick_144 (by decide) ?_
                refine lv_dup2_11 hx hb dL_tick_145 rfl rfl ?_
                refine r_get (Wc := [rowsW cy ro ra (putV τ k (vB τ k - drq (vB τ k))), [(lo, .inl (cy 2, 2, .inl f9))]]) (v := hB τ k) hx hb hK hP 0 rfl k 1 rfl (by decide) hkτ rfl dL_tick_146 ?_
                refine lv_iload hx hb dL_tick_147 (lv_at hl 0 rfl) ?_
                refine lv_isub hx hb dL_tick_149 ?_
                refine r_put (Wc := [rowsW cy ro ra (putV τ k (vB τ k - drq (vB τ k))), [(lo, .inl (cy 2, 2, .inl f9))]]) (τ := putH (putV τ k (vB τ k - drq (vB τ k))) k (hB τ k - hB τ k * drq (vB τ k) / vB τ k)) (Wn := [rowsW cy ro ra (putH (putV τ k (vB τ k - drq (vB τ k))) k (hB τ k - hB τ k * drq (vB τ k) / vB τ k)), [(lo, .inl (cy 2, 2, .inl f9))]]) hx hb hK hP hD hS 0 rfl k 1 rfl (by decide) hkτ rfl putH_row.1 putH_row.2 rfl dL_tick_150 (fun H locs hP hD hS => ?_)
                refine lv_aload_n hx hb dL_tick_151 rfl (lv_at hl 6 rfl) ?_
                refine lv_iconst (v := 0) hx hb dL_tick_152 (by decide) ?_
                refine lv_dup2_11 hx hb dL_tick_153 rfl rfl ?_
                refine c_iald (Wc := [rowsW cy ro ra (putH (putV τ k (vB τ k - drq (vB τ k))) k (hB τ k - hB τ k * drq (vB τ k) / vB τ k)), [(lo, .inl (cy 2, 2, .inl f9))]]) hx hb hK hP 1 rfl 0 rfl (by decide) (Nat.le_of_ble_eq_true rfl) rfl dL_tick_154 ?_
                refine lv_iload hx hb dL_tick_155 (lv_at hl 1 rfl) ?_
                refine lv_iadd hx hb dL_tick_157 ?_
                refine c_iast (Wc := [rowsW cy ro ra (putH (putV τ k (vB τ k - drq (vB τ k))) k (hB τ k - hB τ k * drq (vB τ k) / vB τ k)), [(lo, .inl (cy 2, 2, .inl f9))]]) (Wn := [rowsW cy ro ra (putH (putV τ k (vB τ k - drq (vB τ k))) k (hB τ k - hB τ k * drq (vB τ k) / vB τ k)), [(lo, .inl (cy 2, 2, .inl (upd f9 0 ((f9 0) + (drq (vB τ k))))))]]) hx hb hK hP hD hS 1 rfl 0 rfl (by decide) (Nat.le_of_ble_eq_true rfl) rfl dL_tick_158 (fun H locs hP hD hS => ?_)
                refine lv_aload_n hx hb dL_tick_159 rfl (lv_at hl 6 rfl) ?_
                refine lv_iconst (v := 1) hx hb dL_tick_160 (by decide) ?_
                refine lv_dup2_11 hx hb dL_tick_161 rfl rfl ?_
                refine c_iald (Wc := [rowsW cy ro ra (putH (putV τ k (vB τ k - drq (vB τ k))) k (hB τ k - hB τ k * drq (vB τ k) / vB τ k)), [(lo, .inl (cy 2, 2, .inl (upd f9 0 ((f9 0) + (drq (vB τ k))))))]]) hx hb hK hP 1 rfl 1 rfl (by decide) (Nat.le_of_ble_eq_true rfl) rfl dL_tick_162 ?_
                refine lv_iload hx hb dL_tick_163 (lv_at hl 0 rfl) ?_
                refine lv_iadd hx hb dL_tick_165 ?_
                refine c_iast (Wc := [rowsW cy ro ra (putH (putV τ k (vB τ k - drq (vB τ k))) k (hB τ k - hB τ k * drq (vB τ k) / vB τ k)), [(lo, .inl (cy 2, 2, .inl (upd f9 0 ((f9 0) + (drq (vB τ k))))))]]) (Wn := [rowsW cy ro ra (putH (putV τ k (vB τ k - drq (vB τ k))) k (hB τ k - hB τ k * drq (vB τ k) / vB τ k)), [(lo, .inl (cy 2, 2, .inl (upd (upd f9 0 ((f9 0) + (drq (vB τ k)))) 1 (((upd f9 0 ((f9 0) + (drq (vB τ k)))) 1) + (hB τ k * drq (vB τ k) / vB τ k)))))]]) hx hb hK hP hD hS 1 rfl 1 rfl (by decide) (Nat.le_of_ble_eq_true rfl) rfl dL_tick_166 (fun H locs hP hD hS => ?_)
                refine lv_iinc (v := nI (k + 1)) (lv' := [(4, .int (nI (k + 1))), (7, .int (hB τ k * drq (vB τ k) / vB τ k)), (6, .int (drq (vB τ k))), (5, .ref (ra k)), (3, .int (nI (nB σ))), (2, .ref ro), (1, .ref lo), (0, .ref ro)]) hx hb dL_tick_167 hl (k := 3) rfl (m_inc _) (by decide) rfl (fun ls hl => ?_)
                refine lv_goto (tgt := 75) hx hb dL_tick_170 (by decide) ?_
                have eR : rowsW cy ro ra (drainN (losS σ) (k + 1)) = rowsW cy ro ra (putH (putV τ k (vB τ k - drq (vB τ k))) k (hB τ k - hB τ k * drq (vB τ k) / vB τ k)) := by rw [show drainN (losS σ) (k + 1) = drain1 k (drainN (losS σ) k) from rfl, ← eτ]; exact drain_rows w9 p9
                rw [← eR] at hP hD
                exact ih (k + 1) (by omega) _ _ _ hP hD hS ls (lv_sub hl [0, 4, 5, 6, 7] rfl)
              · refine lv_aload hx hb dL_tick_109 (lv_at hl 0 rfl) ?_
                refine lv_iconst (v := 0) hx hb dL_tick_111 (by decide) ?_
                refine r_get (Wc := [rowsW cy ro ra τ, [(lo, .inl (cy 2, 2, .inl f9))]]) (v := vB τ k) hx hb hK hP 0 rfl k 0 rfl (by decide) hkτ rfl dL_tick_112 ?_
                refine lv_goto (tgt := 117) hx hb dL_tick_113 (by decide) ?_
                refine lv_t0 (show (vB τ k) = drq (vB τ k) from (if_pos (Int32.not_le.mp c7)).symm) ?_
                refine lv_istore (lv' := [(6, .int (drq (vB τ k))), (5, .ref (ra k)), (4, .int (nI k)), (3, .int (nI (nB σ))), (2, .ref ro), (1, .ref lo), (0, .ref ro)]) hx hb dL_tick_117 hl (by decide) rfl (fun ls hl => ?_)
                refine lv_aload hx hb dL_tick_119 (lv_at hl 1 rfl) ?_
                refine lv_iconst (v := 1) hx hb dL_tick_121 (by decide) ?_
                refine r_get (Wc := [rowsW cy ro ra τ, [(lo, .inl (cy 2, 2, .inl f9))]]) (v := hB τ k) hx hb hK hP 0 rfl k 1 rfl (by decide) hkτ rfl dL_tick_122 ?_
                refine lv_iload hx hb dL_tick_123 (lv_at hl 0 rfl) ?_
                refine lv_imul hx hb dL_tick_125 ?_
                refine lv_aload hx hb dL_tick_126 (lv_at hl 1 rfl) ?_
                refine lv_iconst (v := 0) hx hb dL_tick_128 (by decide) ?_
                refine r_get (Wc := [rowsW cy ro ra τ, [(lo, .inl (cy 2, 2, .inl f9))]]) (v := vB τ k) hx hb hK hP 0 rfl k 0 rfl (by decide) hkτ rfl dL_tick_129 ?_
                refine lv_idiv hx hb dL_tick_130 (m_nz (m_wet w9)) ?_
                refine lv_istore (lv' := [(7, .int (hB τ k * drq (vB τ k) / vB τ k)), (6, .int (drq (vB τ k))), (5, .ref (ra k)), (4, .int (nI k)), (3, .int (nI (nB σ))), (2, .ref ro), (1, .ref lo), (0, .ref ro)]) hx hb dL_tick_131 hl (by decide) rfl (fun ls hl => ?_)
                refine lv_aload hx hb dL_tick_133 (lv_at hl 2 rfl) ?_
                refine lv_iconst (v := 0) hx hb dL_tick_135 (by decide) ?_
                refine lv_dup2_11 hx hb dL_tick_136 rfl rfl ?_
                refine r_get (Wc := [rowsW cy ro ra τ, [(lo, .inl (cy 2, 2, .inl f9))]]) (v := vB τ k) hx hb hK hP 0 rfl k 0 rfl (by decide) hkτ rfl dL_tick_137 ?_
                refine lv_iload hx hb dL_tick_138 (lv_at hl 1 rfl) ?_
                refine lv_isub hx hb dL_tick_140 ?_
                refine r_put (Wc := [rowsW cy ro ra τ, [(lo, .inl (cy 2, 2, .inl f9))]]) (τ := putV τ k (vB τ k - drq (vB τ k))) (Wn := [rowsW cy ro ra (putV τ k (vB τ k - drq (vB τ k))), [(lo, .inl (cy 2, 2, .inl f9))]]) hx hb hK hP hD hS 0 rfl k 0 rfl (by decide) hkτ rfl putV_row.1 putV_row.2 rfl dL_tick_141 (fun H locs hP hD hS => ?_)
                refine lv_aload hx hb dL_tick_142 (lv_at hl 2 rfl) ?_
                refine lv_iconst (v := 1) hx hb dL_tick_144 (by decide) ?_
                refine lv_dup2_11 hx hb dL_tick_145 rfl rfl ?_
                refine r_get (Wc := [rowsW cy ro ra (putV τ k (vB τ k - drq (vB τ k))), [(lo, .inl (cy 2, 2, .inl f9))]]) (v := hB τ k) hx hb hK hP 0 rfl k 1 rfl (by decide) hkτ rfl dL_tick_146 ?_
                refine lv_iload hx hb dL_tick_147 (lv_at hl 0 rfl) ?_
                refine lv_isub hx hb dL_tick_149 ?_
                refine r_put (Wc := [rowsW cy ro ra (putV τ k (vB τ k - drq (vB τ k))), [(lo, .inl (cy 2, 2, .inl f9))]]) (τ := putH (putV τ k (vB τ k - drq (vB τ k))) k (hB τ k - hB τ k * drq (vB τ k) / vB τ k)) (Wn := [rowsW cy ro ra (putH (putV τ k (vB τ k - drq (vB τ k))) k (hB τ k - hB τ k * drq (vB τ k) / vB τ k)), [(lo, .inl (cy 2, 2, .inl f9))]]) hx hb hK hP hD hS 0 rfl k 1 rfl (by decide) hkτ rfl putH_row.1 putH_row.2 rfl dL_tick_150 (fun H locs hP hD hS => ?_)
                refine lv_aload_n hx hb dL_tick_151 rfl (lv_at hl 6 rfl) ?_
                refine lv_iconst (v := 0) hx hb dL_tick_152 (by decide) ?_
                refine lv_dup2_11 hx hb dL_tick_153 rfl rfl ?_
                refine c_iald (Wc := [rowsW cy ro ra (putH (putV τ k (vB τ k - drq (vB τ k))) k (hB τ k - hB τ k * drq (vB τ k) / vB τ k)), [(lo, .inl (cy 2, 2, .inl f9))]]) hx hb hK hP 1 rfl 0 rfl (by decide) (Nat.le_of_ble_eq_true rfl) rfl dL_tick_154 ?_
                refine lv_iload hx hb dL_tick_155 (lv_at hl 1 rfl) ?_
                refine lv_iadd hx hb dL_tick_157 ?_
                refine c_iast (Wc := [rowsW cy ro ra (putH (putV τ k (vB τ k - drq (vB τ k))) k (hB τ k - hB τ k * drq (vB τ k) / vB τ k)), [(lo, .inl (cy 2, 2, .inl f9))]]) (Wn := [rowsW cy ro ra (putH (putV τ k (vB τ k - drq (vB τ k))) k (hB τ k - hB τ k * drq (vB τ k) / vB τ k)), [(lo, .inl (cy 2, 2, .inl (upd f9 0 ((f9 0) + (drq (vB τ k))))))]]) hx hb hK hP hD hS 1 rfl 0 rfl (by decide) (Nat.le_of_ble_eq_true rfl) rfl dL_tick_158 (fun H locs hP hD hS => ?_)
                refine lv_aload_n hx hb dL_tick_159 rfl (lv_at hl 6 rfl) ?_
                refine lv_iconst (v := 1) hx hb dL_tick_160 (by decide) ?_
                refine lv_dup2_11 hx hb dL_tick_161 rfl rfl ?_
                refine c_iald (Wc := [rowsW cy ro ra (putH (putV τ k (vB τ k - drq (vB τ k))) k (hB τ k - hB τ k * drq (vB τ k) / vB τ k)), [(lo, .inl (cy 2, 2, .inl (upd f9 0 ((f9 0) + (drq (vB τ k))))))]]) hx hb hK hP 1 rfl 1 rfl (by decide) (Nat.le_of_ble_eq_true rfl) rfl dL_tick_162 ?_
                refine lv_iload hx hb dL_tick_163 (lv_at hl 0 rfl) ?_
                refine lv_iadd hx hb dL_tick_165 ?_
                refine c_iast (Wc := [rowsW cy ro ra (putH (putV τ k (vB τ k - drq (vB τ k))) k (hB τ k - hB τ k * drq (vB τ k) / vB τ k)), [(lo, .inl (cy 2, 2, .inl (upd f9 0 ((f9 0) + (drq (vB τ k))))))]]) (Wn := [rowsW cy ro ra (putH (putV τ k (vB τ k - drq (vB τ k))) k (hB τ k - hB τ k * drq (vB τ k) / vB τ k)), [(lo, .inl (cy 2, 2, .inl (upd (upd f9 0 ((f9 0) + (drq (vB τ k)))) 1 (((upd f9 0 ((f9 0) + (drq (vB τ k)))) 1) + (hB τ k * drq (vB τ k) / vB τ k)))))]]) hx hb hK hP hD hS 1 rfl 1 rfl (by decide) (Nat.le_of_ble_eq_true rfl) rfl dL_tick_166 (fun H locs hP hD hS => ?_)
                refine lv_iinc (v := nI (k + 1)) (lv' := [(4, .int (nI (k + 1))), (7, .int (hB τ k * drq (vB τ k) / vB τ k)), (6, .int (drq (vB τ k))), (5, .ref (ra k)), (3, .int (nI (nB σ))), (2, .ref ro), (1, .ref lo), (0, .ref ro)]) hx hb dL_tick_167 hl (k := 3) rfl (m_inc _) (by decide) rfl (fun ls hl => ?_)
                refine lv_goto (tgt := 75) hx hb dL_tick_170 (by decide) ?_
                have eR : rowsW cy ro ra (drainN (losS σ) (k + 1)) = rowsW cy ro ra (putH (putV τ k (vB τ k - drq (vB τ k))) k (hB τ k - hB τ k * drq (vB τ k) / vB τ k)) := by rw [show drainN (losS σ) (k + 1) = drain1 k (drainN (losS σ) k) from rfl, ← eτ]; exact drain_rows w9 p9
                rw [← eR] at hP hD
                exact ih (k + 1) (by omega) _ _ _ hP hD hS ls (lv_sub hl [0, 4, 5, 6, 7] rfl)
      exact L75 (nB σ) 0 (by omega) _ _ _ hP hD hS ls (lv_sub hl [0, 1, 2, 3, 4] rfl)
    | succ d ih =>
      intro k hk f9 H locs hP hD hS ls hl
      have hk9 : k < nB σ := by omega
      obtain ⟨τ, eτ⟩ : ∃ z : St, z = loseN σ k := ⟨_, rfl⟩
      rw [← eτ] at hP hD
      have hnτ : nB τ = nB σ := by rw [eτ]; exact loseN_nB σ k
      have hkτ : k < nB τ := by rw [hnτ]; exact hk9
      have hN : nB τ ≤ 5 := by omega
      refine lv_iload hx hb dL_tick_8 (lv_at hl 0 rfl) ?_
      refine lv_iload_n hx hb dL_tick_10 rfl (lv_at hl 1 rfl) ?_
      refine lv_icmp_ge (tgt := 67) hx hb dL_tick_11 (by decide) (fun c9 => absurd c9 (fun q => absurd ((nI_leI (by omega) (by omega)).mp q) (by omega))) (fun _ => ?_)
      refine lv_aload_n hx hb dL_tick_14 rfl (lv_at hl 2 rfl) ?_
      refine lv_iload hx hb dL_tick_15 (lv_at hl 0 rfl) ?_
      refine r_row (Wc := [rowsW cy ro ra τ, [(lo, .inl (cy 2, 2, .inl f9))]]) hx hb hK hP 0 rfl k rfl hkτ hN dL_tick_17 ?_
      refine lv_astore (lv' := [(5, .ref (ra k)), (4, .int (nI k)), (3, .int (nI (nB σ))), (2, .ref ro), (1, .ref lo), (0, .ref ro)]) hx hb dL_tick_18 hl (by decide) rfl (fun ls hl => ?_)
      refine lv_aload hx hb dL_tick_20 (lv_at hl 0 rfl) ?_
      refine lv_iconst (v := 0) hx hb dL_tick_22 (by decide) ?_
      refine r_get (Wc := [rowsW cy ro ra τ, [(lo, .inl (cy 2, 2, .inl f9))]]) (v := vB τ k) hx hb hK hP 0 rfl k 0 rfl (by decide) hkτ rfl dL_tick_23 ?_
      refine lv_if_le (tgt := 61) hx hb dL_tick_24 (by decide) (fun c9 => ?_) (fun c9 => ?_)
      · refine lv_iinc (v := nI (k + 1)) (lv' := [(4, .int (nI (k + 1))), (5, .ref (ra k)), (3, .int (nI (nB σ))), (2, .ref ro), (1, .ref lo), (0, .ref ro)]) hx hb dL_tick_61 hl (k := 1) rfl (m_inc _) (by decide) rfl (fun ls hl => ?_)
        refine lv_goto (tgt := 8) hx hb dL_tick_64 (by decide) ?_
        have eR : rowsW cy ro ra (loseN σ (k + 1)) = rowsW cy ro ra (τ) := by rw [show loseN σ (k + 1) = lose1 k (loseN σ k) from rfl, ← eτ, show lose1 k τ = τ from if_neg (fun q => m_wet q c9)]
        rw [← eR] at hP hD
        exact ih (k + 1) (by omega) _ _ _ hP hD hS ls (lv_sub hl [0, 2, 3, 4, 5] rfl)
      · have w9 : wet (vB τ) k = true := decide_eq_true c9
        refine lv_aload hx hb dL_tick_27 (lv_at hl 0 rfl) ?_
        refine lv_iconst (v := 1) hx hb dL_tick_29 (by decide) ?_
        refine r_get (Wc := [rowsW cy ro ra τ, [(lo, .inl (cy 2, 2, .inl f9))]]) (v := hB τ k) hx hb hK hP 0 rfl k 1 rfl (by decide) hkτ rfl dL_tick_30 ?_
        refine lv_bipush (v := 20) hx hb dL_tick_31 (by decide) ?_
        refine lv_aload hx hb dL_tick_33 (lv_at hl 0 rfl) ?_
        refine lv_iconst (v := 0) hx hb dL_tick_35 (by decide) ?_
        refine r_get (Wc := [rowsW cy ro ra τ, [(lo, .inl (cy 2, 2, .inl f9))]]) (v := vB τ k) hx hb hK hP 0 rfl k 0 rfl (by decide) hkτ rfl dL_tick_36 ?_
        refine lv_imul hx hb dL_tick_37 ?_
        refine lv_isub hx hb dL_tick_38 ?_
        refine lv_bipush (v := 10) hx hb dL_tick_39 (by decide) ?_
        refine lv_idiv hx hb dL_tick_41 (by decide) ?_
        refine lv_istore (lv' := [(6, .int ((hB τ k - 20 * vB τ k) / 10)), (5, .ref (ra k)), (4, .int (nI k)), (3, .int (nI (nB σ))), (2, .ref ro), (1, .ref lo), (0, .ref ro)]) hx hb dL_tick_42 hl (by decide) rfl (fun ls hl => ?_)
        refine lv_aload hx hb dL_tick_44 (lv_at hl 1 rfl) ?_
        refine lv_iconst (v := 1) hx hb dL_tick_46 (by decide) ?_
        refine lv_dup2_11 hx hb dL_tick_47 rfl rfl ?_
        refine r_get (Wc := [rowsW cy ro ra τ, [(lo, .inl (cy 2, 2, .inl f9))]]) (v := hB τ k) hx hb hK hP 0 rfl k 1 rfl (by decide) hkτ rfl dL_tick_48 ?_
        refine lv_iload hx hb dL_tick_49 (lv_at hl 0 rfl) ?_
        refine lv_isub hx hb dL_tick_51 ?_
        refine r_put (Wc := [rowsW cy ro ra τ, [(lo, .inl (cy 2, 2, .inl f9))]]) (τ := putH τ k (hB τ k - (hB τ k - 20 * vB τ k) / 10)) (Wn := [rowsW cy ro ra (putH τ k (hB τ k - (hB τ k - 20 * vB τ k) / 10)), [(lo, .inl (cy 2, 2, .inl f9))]]) hx hb hK hP hD hS 0 rfl k 1 rfl (by decide) hkτ rfl putH_row.1 putH_row.2 rfl dL_tick_52 (fun H locs hP hD hS => ?_)
        refine lv_aload_n hx hb dL_tick_53 rfl (lv_at hl 5 rfl) ?_
        refine lv_iconst (v := 1) hx hb dL_tick_54 (by decide) ?_
        refine lv_dup2_11 hx hb dL_tick_55 rfl rfl ?_
        refine c_iald (Wc := [rowsW cy ro ra (putH τ k (hB τ k - (hB τ k - 20 * vB τ k) / 10)), [(lo, .inl (cy 2, 2, .inl f9))]]) hx hb hK hP 1 rfl 1 rfl (by decide) (Nat.le_of_ble_eq_true rfl) rfl dL_tick_56 ?_
        refine lv_iload hx hb dL_tick_57 (lv_at hl 0 rfl) ?_
        refine lv_iadd hx hb dL_tick_59 ?_
        refine c_iast (Wc := [rowsW cy ro ra (putH τ k (hB τ k - (hB τ k - 20 * vB τ k) / 10)), [(lo, .inl (cy 2, 2, .inl f9))]]) (Wn := [rowsW cy ro ra (putH τ k (hB τ k - (hB τ k - 20 * vB τ k) / 10)), [(lo, .inl (cy 2, 2, .inl (upd f9 1 ((f9 1) + ((hB τ k - 20 * vB τ k) / 10)))))]]) hx hb hK hP hD hS 1 rfl 1 rfl (by decide) (Nat.le_of_ble_eq_true rfl) rfl dL_tick_60 (fun H locs hP hD hS => ?_)
        refine lv_iinc (v := nI (k + 1)) (lv' := [(4, .int (nI (k + 1))), (6, .int ((hB τ k - 20 * vB τ k) / 10)), (5, .ref (ra k)), (3, .int (nI (nB σ))), (2, .ref ro), (1, .ref lo), (0, .ref ro)]) hx hb dL_tick_61 hl (k := 2) rfl (m_inc _) (by decide) rfl (fun ls hl => ?_)
        refine lv_goto (tgt := 8) hx hb dL_tick_64 (by decide) ?_
        have eR : rowsW cy ro ra (loseN σ (k + 1)) = rowsW cy ro ra (putH τ k (hB τ k - (hB τ k - 20 * vB τ k) / 10)) := by rw [show loseN σ (k + 1) = lose1 k (loseN σ k) from rfl, ← eτ]; exact lose_rows w9
        rw [← eR] at hP hD
        exact ih (k + 1) (by omega) _ _ _ hP hD hS ls (lv_sub hl [0, 3, 4, 5, 6] rfl)
  exact L8 (nB σ) 0 (by omega) _ _ _ hP hD hS ls (lv_sub hl [0, 1, 2, 4, 3] rfl)
