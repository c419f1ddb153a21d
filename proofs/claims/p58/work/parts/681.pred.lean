/-! what is predicted -/
set_option maxRecDepth 100000 in
set_option maxHeartbeats 12000000 in
theorem n_predicted (l : Launch) (G : va_G) (cy : Nat → ClassId) (kS vS : Nat → Nat) (a : OA) (V : OV) (n0 : Nat) (hl9 : l.stackTraces = false) (hI : Inv n0 V.σ) (hn0 : n0 + 100 < 2147483648) : LQ l yL_predicted 14 400 360 G cy kS vS a V V [.ref a.aX] (.int 1) := by
  refine LX.ofW (cc := cL_predicted) (maxL := 8) (ret := (some .boolean)) (by decide) (big_at 24 14 rfl) (Nat.le_of_ble_eq_true rfl) ?_
  intro p e s m below meth cq u0 S9 hr hlocks hPQ hD hS hA ls hl
  obtain ⟨hx, hb, hml, hown, hts⟩ := id S9
  have hLF := LF.mk hPQ
  have hK := hLF.1
  have hP : va_P G vwCl (fl [OW cy a V u0]) s.heap := hPQ.1.1
  have hD : va_D (va_A (OW cy a V u0) s.heap.size) (fl [OW cy a V u0]) := hD
  have hc : 0 + 360 ≤ 360 := Nat.le_of_ble_eq_true rfl
  have hs : 0 + 64 * 360 ≤ 64 * 360 := Nat.le_of_ble_eq_true rfl
  have hl : lv_has ls 8 [(0, .ref a.aX)] := hl
  have ho := hI.1
  have hN := ho.1
  have hm := ho.m01
  refine lv_aload_n hx hb dL_predicted_0 rfl (lv_at hl 0 rfl) ?_
  refine lq_V S9 hLF (d_bathCount l G cy kS vS a V ho) (bigV 0 hts (big_at 16 12 rfl) (big_at 0 6 rfl) (big_at 16 15 rfl) (big_at 16 13 rfl) (big_at 16 14 rfl) rfl rfl (by decide +kernel) ⟨Nat.le_of_ble_eq_true rfl, Nat.le_of_ble_eq_true rfl⟩) hP hD hS hA rfl hl.1 rfl (Nat.le_of_ble_eq_true rfl) (MC := 360) ⟨rfl, rfl⟩ (360) (by omega) (by omega) dL_predicted_1 (fun u H locs cells slots hc hs hP hD hS => ?_)
  refine lv_istore_n (lv' := [(1, .int (nI (nB V.σ))), (0, .ref a.aX)]) hx hb dL_predicted_4 rfl hl (by decide) rfl (fun ls hl => ?_)
  refine lv_iload_n hx hb dL_predicted_5 rfl (lv_at hl 0 rfl) ?_
  refine c_newa (Wc := [OW cy a V u]) (atype := .int) (ty := .int) (a0 := (nB V.σ, .inl (fun _ => 0))) hx hb (hts _ (big_at 2 9 rfl)) rfl hK 2 rfl hP hD hS hA (nB V.σ) (fun _ => rfl) rfl (by omega) (by show _ * 4 ≤ _; omega) (MC := 360) ⟨rfl, rfl⟩ (359) (by omega) (by omega) dL_predicted_6 (fun q6 H cells slots hc hs hP hD hS => ?_)
  have hP : va_P G vwCl (fl [OW cy a V u, [(q6, .inl (cy 2, nB V.σ, .inl (fun _ => 0)))]]) H := hP
  have hD : va_D (va_A (OW cy a V u0) s.heap.size) (fl [OW cy a V u, [(q6, .inl (cy 2, nB V.σ, .inl (fun _ => 0)))]]) := hD
  refine lv_astore_n (lv' := [(2, .ref q6), (1, .int (nI (nB V.σ))), (0, .ref a.aX)]) hx hb dL_predicted_8 rfl hl (by decide) rfl (fun ls hl => ?_)
  refine lv_iconst (v := 0) hx hb dL_predicted_9 (by decide) ?_
  refine lv_istore_n (lv' := [(3, .int 0), (2, .ref q6), (1, .int (nI (nB V.σ))), (0, .ref a.aX)]) hx hb dL_predicted_10 rfl hl (by decide) rfl (fun ls hl => ?_)
  have L11 : ∀ (d k : Nat), k + d = nB V.σ → ∀ (u : OU) (g : Nat → Int32) (H : Heap) (locs : List Loc) (cells slots : Nat), (∀ i, i < k → g i = unT V.σ i 0) → cells + (0 * d + 350) ≤ 360 → slots + 64 * (0 * d + 350) ≤ 64 * 360 → va_P G vwCl (fl [OW cy a V u, [(q6, .inl (cy 2, nB V.σ, .inl g))]]) H → va_D (va_A (OW cy a V u0) s.heap.size) (fl [OW cy a V u, [(q6, .inl (cy 2, nB V.σ, .inl g))]]) → va_S (va_A (OW cy a V u0) s.heap.size) s.heap H locs → ∀ ls : Array Slot, lv_has ls 8 [(3, .int (nI k)), (2, .ref q6), (1, .int (nI (nB V.σ))), (0, .ref a.aX)] → W p l e ({ frames := 14, cells := 360, slots := 64 * 360, locals := 400 } : Room) s m ([.ref a.aX] : List Value).toArray below meth cq H locs cells slots (lxZ below ([.ref a.aX] : List Value).toArray s G cy a V u0 (fun V2 r2 => V2 = V ∧ r2 = .int 1) 360) (F0 m 11 ls []) := by
    intro d
    induction d with
    | zero =>
      intro k hk u g H locs cells slots hg hc hs hP hD hS ls hl
      have hk9 : k = nB V.σ := by omega
      subst hk9
      refine lv_iload_n hx hb dL_predicted_11 rfl (lv_at hl 0 rfl) ?_
      refine lv_iload_n hx hb dL_predicted_12 rfl (lv_at hl 2 rfl) ?_
      refine lv_icmp_ge (tgt := 40) hx hb dL_predicted_13 (by decide) (fun _ => ?_) (fun c9 => absurd (Int32.le_refl _) c9)
      refine lv_aload_n hx hb dL_predicted_40 rfl (lv_at hl 3 rfl) ?_
      refine lb_S S9 hLF (n_baths l G cy kS vS a V n0 hI) (bigS 1 hts (big_at 16 8 rfl) (big_at 0 2 rfl) (big_at 16 10 rfl) (big_at 16 9 rfl) rfl rfl (by decide +kernel) ⟨Nat.le_of_ble_eq_true rfl, Nat.le_of_ble_eq_true rfl⟩) hP hD hS hA hl.1 (Nat.le_of_ble_eq_true rfl) (MC := 360) ⟨rfl, rfl⟩ (339) (by omega) (by omega) dL_predicted_41 (fun u ro ra H locs cells slots hc hs hP hD hS => ?_)
      refine lv_astore_n (lv' := [(3, .ref ro), (2, .ref q6), (1, .int (nI (nB V.σ))), (0, .ref a.aX)]) hx hb dL_predicted_44 rfl hl (by decide) rfl (fun ls hl => ?_)
      refine lv_iconst (v := 2) hx hb dL_predicted_45 (by decide) ?_
      refine c_newa (Wc := [OW cy a V u, rowsW cy ro ra V.σ, [(q6, .inl (cy 2, nB V.σ, .inl g))]]) (atype := .int) (ty := .int) (a0 := (2, .inl (fun _ => 0))) hx hb (hts _ (big_at 2 9 rfl)) rfl hK 2 rfl hP hD hS hA 2 (fun _ => rfl) rfl (by omega) (by show _ * 4 ≤ _; omega) (MC := 360) ⟨rfl, rfl⟩ (338) (by omega) (by omega) dL_predicted_46 (fun q46 H cells slots hc hs hP hD hS => ?_)
      have hP : va_P G vwCl (fl [OW cy a V u, rowsW cy ro ra V.σ, [(q6, .inl (cy 2, nB V.σ, .inl g))], [(q46, .inl (cy 2, 2, .inl (fun _ => 0)))]]) H := hP
      have hD : va_D (va_A (OW cy a V u0) s.heap.size) (fl [OW cy a V u, rowsW cy ro ra V.σ, [(q6, .inl (cy 2, nB V.σ, .inl g))], [(q46, .inl (cy 2, 2, .inl (fun _ => 0)))]]) := hD
      refine lv_astore (lv' := [(4, .ref q46), (3, .ref ro), (2, .ref q6), (1, .int (nI (nB V.σ))), (0, .ref a.aX)]) hx hb dL_predicted_48 hl (by decide) rfl (fun ls hl => ?_)
      refine lv_iconst (v := 0) hx hb dL_predicted_50 (by decide) ?_
      refine lv_istore (lv' := [(5, .int 0), (4, .ref q46), (3, .ref ro), (2, .ref q6), (1, .int (nI (nB V.σ))), (0, .ref a.aX)]) hx hb dL_predicted_51 hl (by decide) rfl (fun ls hl => ?_)
      have L53 : ∀ (d t : Nat), t + d = 61 → ∀ (u : OU) (f : Nat → Int32) (g : Nat → Int32) (H : Heap) (locs : List Loc) (cells slots : Nat), (∀ i, i < nB V.σ → f i = unT V.σ i t) → cells + (5 * d + 21) ≤ 360 → slots + 64 * (5 * d + 21) ≤ 64 * 360 → va_P G vwCl (fl [OW cy a V u, rowsW cy ro ra (tickN V.σ (t - 1)), [(q6, .inl (cy 2, nB V.σ, .inl f))], [(q46, .inl (cy 2, 2, .inl g))]]) H → va_D (va_A (OW cy a V u0) s.heap.size) (fl [OW cy a V u, rowsW cy ro ra (tickN V.σ (t - 1)), [(q6, .inl (cy 2, nB V.σ, .inl f))], [(q46, .inl (cy 2, 2, .inl g))]]) → va_S (va_A (OW cy a V u0) s.heap.size) s.heap H locs → ∀ ls : Array Slot, lv_has ls 8 [(5, .int (nI t)), (4, .ref q46), (3, .ref ro), (2, .ref q6), (1, .int (nI (nB V.σ))), (0, .ref a.aX)] → W p l e ({ frames := 14, cells := 360, slots := 64 * 360, locals := 400 } : Room) s m ([.ref a.aX] : List Value).toArray below meth cq H locs cells slots (lxZ below ([.ref a.aX] : List Value).toArray s G cy a V u0 (fun V2 r2 => V2 = V ∧ r2 = .int 1) 360) (F0 m 53 ls []) := by
        intro d
        induction d with
        | zero =>
          intro t ht u f g H locs cells slots hf hc hs hP hD hS ls hl
          have ht9 : t = 61 := by omega
          subst ht9
          refine lv_iload hx hb dL_predicted_53 (lv_at hl 0 rfl) ?_
          refine lv_bipush (v := 60) hx hb dL_predicted_55 (by decide) ?_
          refine lv_icmp_gt (tgt := 150) hx hb dL_predicted_57 (by decide) (fun _ => ?_) (fun c9 => absurd (by decide) c9)
          refine lv_iconst (v := 0) hx hb dL_predicted_150 (by decide) ?_
          refine lv_istore (lv' := [(5, .int 0), (4, .ref q46), (3, .ref ro), (2, .ref q6), (1, .int (nI (nB V.σ))), (0, .ref a.aX)]) hx hb dL_predicted_151 hl (by decide) rfl (fun ls hl => ?_)
          have L153 : ∀ (d k : Nat), k + d = nB V.σ → ∀ (u : OU) (H : Heap) (locs : List Loc) (cells slots : Nat), cells + (3 * d + 5) ≤ 360 → slots + 64 * (3 * d + 5) ≤ 64 * 360 → va_P G vwCl (fl [OW cy a V u, rowsW cy ro ra (tickN V.σ (61 - 1)), [(q6, .inl (cy 2, nB V.σ, .inl f))], [(q46, .inl (cy 2, 2, .inl g))]]) H → va_D (va_A (OW cy a V u0) s.heap.size) (fl [OW cy a V u, rowsW cy ro ra (tickN V.σ (61 - 1)), [(q6, .inl (cy 2, nB V.σ, .inl f))], [(q46, .inl (cy 2, 2, .inl g))]]) → va_S (va_A (OW cy a V u0) s.heap.size) s.heap H locs → ∀ ls : Array Slot, lv_has ls 8 [(5, .int (nI k)), (2, .ref q6), (1, .int (nI (nB V.σ))), (0, .ref a.aX)] → W p l e ({ frames := 14, cells := 360, slots := 64 * 360, locals := 400 } : Room) s m ([.ref a.aX] : List Value).toArray below meth cq H locs cells slots (lxZ below ([.ref a.aX] : List Value).toArray s G cy a V u0 (fun V2 r2 => V2 = V ∧ r2 = .int 1) 360) (F0 m 153 ls []) := by
            intro d
            induction d with
            | zero =>
              intro k hk u H locs cells slots hc hs hP hD hS ls hl
              have hk9 : k = nB V.σ := by omega
              subst hk9
              refine lv_iload hx hb dL_predicted_153 (lv_at hl 0 rfl) ?_
              refine lv_iload_n hx hb dL_predicted_155 rfl (lv_at hl 2 rfl) ?_
              refine lv_icmp_ge (tgt := 205) hx hb dL_predicted_156 (by decide) (fun _ => ?_) (fun c9 => absurd (Int32.le_refl _) c9)
              have ixn : ¬ inI (nI (nB V.σ)) (nI (nB V.σ)) = true := by simp [inI]
              refine lv_aload_n hx hb dL_predicted_205 rfl (lv_at hl 3 rfl) ?_
              refine lv_iload_n hx hb dL_predicted_206 rfl (lv_at hl 2 rfl) ?_
              refine lq_SW S9 hLF (q_until_1 l G cy kS vS a V (nI (nB V.σ)) hl9 ho ixn) (bigSW 2 hts (big_at 25 2 rfl) (big_at 0 2 rfl) (big_at 25 4 rfl) (big_at 25 3 rfl) rfl rfl (by decide +kernel) ⟨Nat.le_of_ble_eq_true rfl, Nat.le_of_ble_eq_true rfl⟩) hP hD hS hA rfl hl.1 rfl (Nat.le_of_ble_eq_true rfl) (MC := 360) ⟨rfl, rfl⟩ (4) (by omega) (by omega) dL_predicted_207 (fun u H locs cells slots hc hs hP hD hS => ?_)
              refine lv_bipush (v := (-11)) hx hb dL_predicted_210 (by decide) ?_
              refine lv_icmp_ne (tgt := 238) hx hb dL_predicted_212 (by decide) (fun c9 => absurd (by decide) c9) (fun _ => ?_)
              refine lv_aload_n hx hb dL_predicted_215 rfl (lv_at hl 3 rfl) ?_
              refine lv_iload_n hx hb dL_predicted_216 rfl (lv_at hl 2 rfl) ?_
              refine lv_bipush (v := 99) hx hb dL_predicted_217 (by decide) ?_
              refine lq_SW S9 hLF (q_heatAfter_1 l G cy kS vS a V (nI (nB V.σ)) 99 hl9 ho ixn) (bigSW 3 hts (big_at 24 18 rfl) (big_at 0 2 rfl) (big_at 24 20 rfl) (big_at 24 19 rfl) rfl rfl (by decide +kernel) ⟨Nat.le_of_ble_eq_true rfl, Nat.le_of_ble_eq_true rfl⟩) hP hD hS hA rfl hl.1 rfl (Nat.le_of_ble_eq_true rfl) (MC := 360) ⟨rfl, rfl⟩ (3) (by omega) (by omega) dL_predicted_219 (fun u H locs cells slots hc hs hP hD hS => ?_)
              refine lv_bipush (v := (-11)) hx hb dL_predicted_222 (by decide) ?_
              refine lv_icmp_ne (tgt := 238) hx hb dL_predicted_224 (by decide) (fun c9 => absurd (by decide) c9) (fun _ => ?_)
              refine lv_aload_n hx hb dL_predicted_227 rfl (lv_at hl 3 rfl) ?_
              refine lq_V S9 hLF (d_isConsistent l G cy kS vS a V ho (sum_M _ _ _) (of_add hI.2.2.2.2.2.1) (of_add hI.2.2.2.2.2.2)) (bigV 0 hts (big_at 25 10 rfl) (big_at 0 6 rfl) (big_at 25 13 rfl) (big_at 25 11 rfl) (big_at 25 12 rfl) rfl rfl (by decide +kernel) ⟨Nat.le_of_ble_eq_true rfl, Nat.le_of_ble_eq_true rfl⟩) hP hD hS hA rfl hl.1 rfl (Nat.le_of_ble_eq_true rfl) (MC := 360) ⟨rfl, rfl⟩ (3) (by omega) (by omega) dL_predicted_228 (fun u H locs cells slots hc hs hP hD hS => ?_)
              refine lv_if_eq (tgt := 238) hx hb dL_predicted_231 (by decide) (fun c9 => absurd c9 (by decide)) (fun _ => ?_)
              refine lv_iconst (v := 1) hx hb dL_predicted_234 (by decide) ?_
              refine lv_goto (tgt := 239) hx hb dL_predicted_235 (by decide) ?_
              exact lx_zret hx hb hr hlocks (by rfl) ⟨rfl, rfl⟩ hP hS (by omega) (by omega) dL_predicted_239
            | succ d ih =>
              intro k hk u H locs cells slots hc hs hP hD hS ls hl
              have hk9 : k < nB V.σ := by omega
              refine lv_iload hx hb dL_predicted_153 (lv_at hl 0 rfl) ?_
              refine lv_iload_n hx hb dL_predicted_155 rfl (lv_at hl 2 rfl) ?_
              refine lv_icmp_ge (tgt := 205) hx hb dL_predicted_156 (by decide) (fun c9 => absurd c9 (fun q => absurd ((nI_leI (by omega) (by omega)).mp q) (by omega))) (fun _ => ?_)
              refine lv_aload_n hx hb dL_predicted_159 rfl (lv_at hl 3 rfl) ?_
              refine lv_iload hx hb dL_predicted_160 (lv_at hl 0 rfl) ?_
              have eU := unT_end ho (i := k) (by omega)
              by_cases m8 : mB V.σ k = 0
              · refine lq_SW S9 hLF (q_until_2 l G cy kS vS a V k hl9 ho hk9 m8) (bigSW 2 hts (big_at 25 2 rfl) (big_at 0 2 rfl) (big_at 25 4 rfl) (big_at 25 3 rfl) rfl rfl (by decide +kernel) ⟨Nat.le_of_ble_eq_true rfl, Nat.le_of_ble_eq_true rfl⟩) hP hD hS hA rfl hl.1 rfl (Nat.le_of_ble_eq_true rfl) (MC := 360) ⟨rfl, rfl⟩ (3 * d + 7) (by omega) (by omega) dL_predicted_162 (fun u H locs cells slots hc hs hP hD hS => ?_)
                refine lv_aload_n hx hb dL_predicted_165 rfl (lv_at hl 1 rfl) ?_
                refine lv_iload hx hb dL_predicted_166 (lv_at hl 0 rfl) ?_
                refine c_iald (Wc := [OW cy a V u, rowsW cy ro ra (tickN V.σ (61 - 1)), [(q6, .inl (cy 2, nB V.σ, .inl f))], [(q46, .inl (cy 2, 2, .inl g))]]) (v := -14) hx hb hK hP 2 rfl k rfl hk9 (by omega) (by rw [hf k hk9, eU, if_pos m8]) dL_predicted_168 ?_
                refine lv_icmp_ne (tgt := 197) hx hb dL_predicted_169 (by decide) (fun c9 => absurd rfl c9) (fun _ => ?_)
                refine lv_aload_n hx hb dL_predicted_172 rfl (lv_at hl 3 rfl) ?_
                refine lv_iload hx hb dL_predicted_173 (lv_at hl 0 rfl) ?_
                refine lv_bipush (v := 61) hx hb dL_predicted_175 (by decide) ?_
                refine lq_SW S9 hLF (q_heatAfter_2 l G cy kS vS a V k 61 hl9 ho hk9 (by decide)) (bigSW 3 hts (big_at 24 18 rfl) (big_at 0 2 rfl) (big_at 24 20 rfl) (big_at 24 19 rfl) rfl rfl (by decide +kernel) ⟨Nat.le_of_ble_eq_true rfl, Nat.le_of_ble_eq_true rfl⟩) hP hD hS hA rfl hl.1 rfl (Nat.le_of_ble_eq_true rfl) (MC := 360) ⟨rfl, rfl⟩ (3 * d + 6) (by omega) (by omega) dL_predicted_177 (fun u H locs cells slots hc hs hP hD hS => ?_)
                refine lv_bipush (v := (-12)) hx hb dL_predicted_180 (by decide) ?_
                refine lv_icmp_ne (tgt := 197) hx hb dL_predicted_182 (by decide) (fun c9 => absurd (by decide) c9) (fun _ => ?_)
                refine lv_aload_n hx hb dL_predicted_185 rfl (lv_at hl 3 rfl) ?_
                refine lv_iload hx hb dL_predicted_186 (lv_at hl 0 rfl) ?_
                refine lv_iconst (v := (-1)) hx hb dL_predicted_188 (by decide) ?_
                refine lq_SW S9 hLF (q_heatAfter_2 l G cy kS vS a V k (-1) hl9 ho hk9 (by decide)) (bigSW 3 hts (big_at 24 18 rfl) (big_at 0 2 rfl) (big_at 24 20 rfl) (big_at 24 19 rfl) rfl rfl (by decide +kernel) ⟨Nat.le_of_ble_eq_true rfl, Nat.le_of_ble_eq_true rfl⟩) hP hD hS hA rfl hl.1 rfl (Nat.le_of_ble_eq_true rfl) (MC := 360) ⟨rfl, rfl⟩ (3 * d + 5) (by omega) (by omega) dL_predicted_189 (fun u H locs cells slots hc hs hP hD hS => ?_)
                refine lv_bipush (v := (-12)) hx hb dL_predicted_192 (by decide) ?_
                refine lv_icmp_eq (tgt := 199) hx hb dL_predicted_194 (by decide) (fun _ => ?_) (fun c9 => absurd (by decide) c9)
                refine lv_iinc (v := nI (k + 1)) (lv' := [(5, .int (nI (k + 1))), (2, .ref q6), (1, .int (nI (nB V.σ))), (0, .ref a.aX)]) hx hb dL_predicted_199 hl (k := 0) rfl (m_inc _) (by decide) rfl (fun ls hl => ?_)
                refine lv_goto (tgt := 153) hx hb dL_predicted_202 (by decide) ?_
                exact ih (k + 1) (by omega) _ _ _ _ _ (by omega) (by omega) hP hD hS ls (lv_sub hl [0, 1, 2, 3] rfl)
              · rw [if_neg m8] at eU
                by_cases a8 : atF (fun k9 => mB (tickN V.σ k9) k) 0 1 60 = -1
                · refine lq_SW S9 hLF (q_until_3 l G cy kS vS a V k hl9 ho hk9 m8 a8) (bigSW 2 hts (big_at 25 2 rfl) (big_at 0 2 rfl) (big_at 25 4 rfl) (big_at 25 3 rfl) rfl rfl (by decide +kernel) ⟨Nat.le_of_ble_eq_true rfl, Nat.le_of_ble_eq_true rfl⟩) hP hD hS hA rfl hl.1 rfl (Nat.le_of_ble_eq_true rfl) (MC := 360) ⟨rfl, rfl⟩ (3 * d + 7) (by omega) (by omega) dL_predicted_162 (fun u H locs cells slots hc hs hP hD hS => ?_)
                  refine lv_aload_n hx hb dL_predicted_165 rfl (lv_at hl 1 rfl) ?_
                  refine lv_iload hx hb dL_predicted_166 (lv_at hl 0 rfl) ?_
                  refine c_iald (Wc := [OW cy a V u, rowsW cy ro ra (tickN V.σ (61 - 1)), [(q6, .inl (cy 2, nB V.σ, .inl f))], [(q46, .inl (cy 2, 2, .inl g))]]) (v := -13) hx hb hK hP 2 rfl k rfl hk9 (by omega) (by rw [hf k hk9, eU, if_pos a8]) dL_predicted_168 ?_
                  refine lv_icmp_ne (tgt := 197) hx hb dL_predicted_169 (by decide) (fun c9 => absurd rfl c9) (fun _ => ?_)
                  refine lv_aload_n hx hb dL_predicted_172 rfl (lv_at hl 3 rfl) ?_
                  refine lv_iload hx hb dL_predicted_173 (lv_at hl 0 rfl) ?_
                  refine lv_bipush (v := 61) hx hb dL_predicted_175 (by decide) ?_
                  refine lq_SW S9 hLF (q_heatAfter_2 l G cy kS vS a V k 61 hl9 ho hk9 (by decide)) (bigSW 3 hts (big_at 24 18 rfl) (big_at 0 2 rfl) (big_at 24 20 rfl) (big_at 24 19 rfl) rfl rfl (by decide +kernel) ⟨Nat.le_of_ble_eq_true rfl, Nat.le_of_ble_eq_true rfl⟩) hP hD hS hA rfl hl.1 rfl (Nat.le_of_ble_eq_true rfl) (MC := 360) ⟨rfl, rfl⟩ (3 * d + 6) (by omega) (by omega) dL_predicted_177 (fun u H locs cells slots hc hs hP hD hS => ?_)
                  refine lv_bipush (v := (-12)) hx hb dL_predicted_180 (by decide) ?_
                  refine lv_icmp_ne (tgt := 197) hx hb dL_predicted_182 (by decide) (fun c9 => absurd (by decide) c9) (fun _ => ?_)
                  refine lv_aload_n hx hb dL_predicted_185 rfl (lv_at hl 3 rfl) ?_
                  refine lv_iload hx hb dL_predicted_186 (lv_at hl 0 rfl) ?_
                  refine lv_iconst (v := (-1)) hx hb dL_predicted_188 (by decide) ?_
                  refine lq_SW S9 hLF (q_heatAfter_2 l G cy kS vS a V k (-1) hl9 ho hk9 (by decide)) (bigSW 3 hts (big_at 24 18 rfl) (big_at 0 2 rfl) (big_at 24 20 rfl) (big_at 24 19 rfl) rfl rfl (by decide +kernel) ⟨Nat.le_of_ble_eq_true rfl, Nat.le_of_ble_eq_true rfl⟩) hP hD hS hA rfl hl.1 rfl (Nat.le_of_ble_eq_true rfl) (MC := 360) ⟨rfl, rfl⟩ (3 * d + 5) (by omega) (by omega) dL_predicted_189 (fun u H locs cells slots hc hs hP hD hS => ?_)
                  refine lv_bipush (v := (-12)) hx hb dL_predicted_192 (by decide) ?_
                  refine lv_icmp_eq (tgt := 199) hx hb dL_predicted_194 (by decide) (fun _ => ?_) (fun c9 => absurd (by decide) c9)
                  refine lv_iinc (v := nI (k + 1)) (lv' := [(5, .int (nI (k + 1))), (2, .ref q6), (1, .int (nI (nB V.σ))), (0, .ref a.aX)]) hx hb dL_predicted_199 hl (k := 0) rfl (m_inc _) (by decide) rfl (fun ls hl => ?_)
                  refine lv_goto (tgt := 153) hx hb dL_predicted_202 (by decide) ?_
                  exact ih (k + 1) (by omega) _ _ _ _ _ (by omega) (by omega) hP hD hS ls (lv_sub hl [0, 1, 2, 3] rfl)
                · obtain ⟨n9, hn9, e9⟩ := at_nI a8
                  refine lq_SW S9 hLF (q_until l G cy kS vS a V k n9 ho hk9 m8 (by omega) e9) (bigSW 2 hts (big_at 25 2 rfl) (big_at 0 2 rfl) (big_at 25 4 rfl) (big_at 25 3 rfl) rfl rfl (by decide +kernel) ⟨Nat.le_of_ble_eq_true rfl, Nat.le_of_ble_eq_true rfl⟩) hP hD hS hA rfl hl.1 rfl (Nat.le_of_ble_eq_true rfl) (MC := 360) ⟨rfl, rfl⟩ (3 * d + 7) (by omega) (by omega) dL_predicted_162 (fun u H locs cells slots hc hs hP hD hS => ?_)
                  refine lv_aload_n hx hb dL_predicted_165 rfl (lv_at hl 1 rfl) ?_
                  refine lv_iload hx hb dL_predicted_166 (lv_at hl 0 rfl) ?_
                  refine c_iald (Wc := [OW cy a V u, rowsW cy ro ra (tickN V.σ (61 - 1)), [(q6, .inl (cy 2, nB V.σ, .inl f))], [(q46, .inl (cy 2, 2, .inl g))]]) (v := nI n9) hx hb hK hP 2 rfl k rfl hk9 (by omega) (by rw [hf k hk9, eU, if_neg a8, e9]) dL_predicted_168 ?_
                  refine lv_icmp_ne (tgt := 197) hx hb dL_predicted_169 (by decide) (fun c9 => absurd rfl c9) (fun _ => ?_)
                  refine lv_aload_n hx hb dL_predicted_172 rfl (lv_at hl 3 rfl) ?_
                  refine lv_iload hx hb dL_predicted_173 (lv_at hl 0 rfl) ?_
                  refine lv_bipush (v := 61) hx hb dL_predicted_175 (by decide) ?_
                  refine lq_SW S9 hLF (q_heatAfter_2 l G cy kS vS a V k 61 hl9 ho hk9 (by decide)) (bigSW 3 hts (big_at 24 18 rfl) (big_at 0 2 rfl) (big_at 24 20 rfl) (big_at 24 19 rfl) rfl rfl (by decide +kernel) ⟨Nat.le_of_ble_eq_true rfl, Nat.le_of_ble_eq_true rfl⟩) hP hD hS hA rfl hl.1 rfl (Nat.le_of_ble_eq_true rfl) (MC := 360) ⟨rfl, rfl⟩ (3 * d + 6) (by omega) (by omega) dL_predicted_177 (fun u H locs cells slots hc hs hP hD hS => ?_)
                  refine lv_bipush (v := (-12)) hx hb dL_predicted_180 (by decide) ?_
                  refine lv_icmp_ne (tgt := 197) hx hb dL_predicted_182 (by decide) (fun c9 => absurd (by decide) c9) (fun _ => ?_)
                  refine lv_aload_n hx hb dL_predicted_185 rfl (lv_at hl 3 rfl) ?_
                  refine lv_iload hx hb dL_predicted_186 (lv_at hl 0 rfl) ?_
                  refine lv_iconst (v := (-1)) hx hb dL_predicted_188 (by decide) ?_
                  refine lq_SW S9 hLF (q_heatAfter_2 l G cy kS vS a V k (-1) hl9 ho hk9 (by decide)) (bigSW 3 hts (big_at 24 18 rfl) (big_at 0 2 rfl) (big_at 24 20 rfl) (big_at 24 19 rfl) rfl rfl (by decide +kernel) ⟨Nat.le_of_ble_eq_true rfl, Nat.le_of_ble_eq_true rfl⟩) hP hD hS hA rfl hl.1 rfl (Nat.le_of_ble_eq_true rfl) (MC := 360) ⟨rfl, rfl⟩ (3 * d + 5) (by omega) (by omega) dL_predicted_189 (fun u H locs cells slots hc hs hP hD hS => ?_)
                  refine lv_bipush (v := (-12)) hx hb dL_predicted_192 (by decide) ?_
                  refine lv_icmp_eq (tgt := 199) hx hb dL_predicted_194 (by decide) (fun _ => ?_) (fun c9 => absurd (by decide) c9)
                  refine lv_iinc (v := nI (k + 1)) (lv' := [(5, .int (nI (k + 1))), (2, .ref q6), (1, .int (nI (nB V.σ))), (0, .ref a.aX)]) hx hb dL_predicted_199 hl (k := 0) rfl (m_inc _) (by decide) rfl (fun ls hl => ?_)
                  refine lv_goto (tgt := 153) hx hb dL_predicted_202 (by decide) ?_
                  exact ih (k + 1) (by omega) _ _ _ _ _ (by omega) (by omega) hP hD hS ls (lv_sub hl [0, 1, 2, 3] rfl)
          exact L153 (nB V.σ) 0 (by omega) _ _ _ _ _ (by omega) (by omega) hP hD hS ls (lv_sub hl [0, 3, 4, 5] rfl)
        | succ d ih =>
          intro t ht u f g H locs cells slots hf hc hs hP hD hS ls hl
          have ht9 : t < 61 := by omega
          refine lv_iload hx hb dL_predicted_53 (lv_at hl 0 rfl) ?_
          refine lv_bipush (v := 60) hx hb dL_predicted_55 (by decide) ?_
          refine lv_icmp_gt (tgt := 150) hx hb dL_predicted_57 (by decide) (fun c9 => absurd c9 (fun q => absurd ((m_ltN (a := 60) (b := t) rfl rfl (by omega) (by omega)).mp q) (by omega))) (fun _ => ?_)
          refine lv_iload hx hb dL_predicted_60 (lv_at hl 0 rfl) ?_
          rcases Nat.eq_zero_or_pos t with t0 | t0
          · subst t0
            have hl : lv_has ls 8 [(5, .int (nI 0)), (4, .ref q46), (3, .ref ro), (2, .ref q6), (1, .int (nI (nB V.σ))), (0, .ref a.aX)] := hl
            have hP : va_P G vwCl (fl [OW cy a V u, rowsW cy ro ra (tickN V.σ 0), [(q6, .inl (cy 2, nB V.σ, .inl f))], [(q46, .inl (cy 2, 2, .inl g))]]) H := hP
            have hD : va_D (va_A (OW cy a V u0) s.heap.size) (fl [OW cy a V u, rowsW cy ro ra (tickN V.σ 0), [(q6, .inl (cy 2, nB V.σ, .inl f))], [(q46, .inl (cy 2, 2, .inl g))]]) := hD
            refine lv_if_ne (tgt := 69) hx hb dL_predicted_62 (by decide) (fun c9 => absurd (show nI 0 = 0 from rfl) c9) (fun _ => ?_)
            refine lv_iconst (v := 0) hx hb dL_predicted_65 (by decide) ?_
            refine lv_goto (tgt := 75) hx hb dL_predicted_66 (by decide) ?_
            refine lv_istore (lv' := [(6, .int 0), (5, .int (nI 0)), (4, .ref q46), (3, .ref ro), (2, .ref q6), (1, .int (nI (nB V.σ))), (0, .ref a.aX)]) hx hb dL_predicted_75 hl (by decide) rfl (fun ls hl => ?_)
            refine lv_iconst (v := 0) hx hb dL_predicted_77 (by decide) ?_
            refine lv_istore (lv' := [(7, .int 0), (6, .int 0), (5, .int (nI 0)), (4, .ref q46), (3, .ref ro), (2, .ref q6), (1, .int (nI (nB V.σ))), (0, .ref a.aX)]) hx hb dL_predicted_78 hl (by decide) rfl (fun ls hl => ?_)
            have hbit : ∀ k, k < nB V.σ → ((((0) : Int32) >>> (nI k &&& 31)) &&& 1 = 1 ↔ (fun _ : Nat => false) k = true) := (fun k hk => by rw [bit_zero (by omega)]; exact ⟨fun h => absurd h (by decide), fun h => by cases h⟩)
            have hU : ∀ k, k < nB V.σ → unT V.σ k (0 + 1) = (if (fun _ : Nat => false) k = true then nI 0 else unT V.σ k 0) := (fun k hk => (show unT V.σ k (0 + 1) = unT V.σ k 0 from rfl).trans (if_neg (fun h => by cases h)).symm)
            have L80 : ∀ (d80 k : Nat), k + d80 = nB V.σ → ∀ (u : OU) (f9 : Nat → Int32) (H : Heap) (locs : List Loc) (cells slots : Nat), (∀ i, i < k → f9 i = unT V.σ i (0 + 1)) → (∀ i, k ≤ i → i < nB V.σ → f9 i = unT V.σ i (0)) → cells + (5 * d + 1 * d80 + 21) ≤ 360 → slots + 64 * (5 * d + 1 * d80 + 21) ≤ 64 * 360 → va_P G vwCl (fl [OW cy a V u, rowsW cy ro ra (tickN V.σ 0), [(q6, .inl (cy 2, nB V.σ, .inl f9))], [(q46, .inl (cy 2, 2, .inl g))]]) H → va_D (va_A (OW cy a V u0) s.heap.size) (fl [OW cy a V u, rowsW cy ro ra (tickN V.σ 0), [(q6, .inl (cy 2, nB V.σ, .inl f9))], [(q46, .inl (cy 2, 2, .inl g))]]) → va_S (va_A (OW cy a V u0) s.heap.size) s.heap H locs → ∀ ls : Array Slot, lv_has ls 8 [(7, .int (nI k)), (6, .int (0)), (5, .int (nI 0)), (4, .ref q46), (3, .ref ro), (2, .ref q6), (1, .int (nI (nB V.σ))), (0, .ref a.aX)] → W p l e ({ frames := 14, cells := 360, slots := 64 * 360, locals := 400 } : Room) s m ([.ref a.aX] : List Value).toArray below meth cq H locs cells slots (lxZ below ([.ref a.aX] : List Value).toArray s G cy a V u0 (fun V2 r2 => V2 = V ∧ r2 = .int 1) 360) (F0 m 80 ls []) := by
              intro d80
              induction d80 with
              | zero =>
                intro k hk u f9 H locs cells slots hf1 hf2 hc hs hP hD hS ls hl
                have hk9 : k = nB V.σ := by omega
                subst hk9
                refine lv_iload hx hb dL_predicted_80 (lv_at hl 0 rfl) ?_
                refine lv_iload_n hx hb dL_predicted_82 rfl (lv_at hl 6 rfl) ?_
                refine lv_icmp_ge (tgt := 144) hx hb dL_predicted_83 (by decide) (fun _ => ?_) (fun c9 => absurd (Int32.le_refl _) c9)
                refine lv_iinc (v := nI (0 + 1)) (lv' := [(5, .int (nI (0 + 1))), (7, .int (nI (nB V.σ))), (6, .int (0)), (4, .ref q46), (3, .ref ro), (2, .ref q6), (1, .int (nI (nB V.σ))), (0, .ref a.aX)]) hx hb dL_predicted_144 hl (k := 2) rfl (m_inc _) (by decide) rfl (fun ls hl => ?_)
                refine lv_goto (tgt := 53) hx hb dL_predicted_147 (by decide) ?_
                exact ih (0 + 1) (by omega) _ f9 g _ _ _ _ (fun i hi => hf1 i hi) (by omega) (by omega) hP hD hS ls (lv_sub hl [0, 3, 4, 5, 6, 7] rfl)
              | succ d80 ih3 =>
                intro k hk u f9 H locs cells slots hf1 hf2 hc hs hP hD hS ls hl
                have hk9 : k < nB V.σ := by omega
                refine lv_iload hx hb dL_predicted_80 (lv_at hl 0 rfl) ?_
                refine lv_iload_n hx hb dL_predicted_82 rfl (lv_at hl 6 rfl) ?_
                refine lv_icmp_ge (tgt := 144) hx hb dL_predicted_83 (by decide) (fun c9 => absurd c9 (fun q => absurd ((nI_leI (by omega) (by omega)).mp q) (by omega))) (fun _ => ?_)
                refine lv_aload_n hx hb dL_predicted_86 rfl (lv_at hl 5 rfl) ?_
                refine lv_iload hx hb dL_predicted_87 (lv_at hl 0 rfl) ?_
                refine lv_iload hx hb dL_predicted_89 (lv_at hl 1 rfl) ?_
                refine lv_iload hx hb dL_predicted_91 (lv_at hl 0 rfl) ?_
                refine lv_ishr hx hb dL_predicted_93 ?_
                refine lv_iconst (v := 1) hx hb dL_predicted_94 (by decide) ?_
                refine lv_iand hx hb dL_predicted_95 ?_
                refine lv_iconst (v := 1) hx hb dL_predicted_96 (by decide) ?_
                by_cases b9 : (fun _ : Nat => false) k = true
                · refine lv_icmp_ne (tgt := 105) hx hb dL_predicted_97 (by decide) (fun c9 => absurd ((hbit k hk9).mpr b9) c9) (fun _ => ?_)
                  refine lv_iload hx hb dL_predicted_100 (lv_at hl 2 rfl) ?_
                  refine lv_goto (tgt := 109) hx hb dL_predicted_102 (by decide) ?_
                  refine c_iast (Wc := [OW cy a V u, rowsW cy ro ra (tickN V.σ 0), [(q6, .inl (cy 2, nB V.σ, .inl f9))], [(q46, .inl (cy 2, 2, .inl g))]]) (Wn := [OW cy a V u, rowsW cy ro ra (tickN V.σ 0), [(q6, .inl (cy 2, nB V.σ, .inl (upd f9 k (nI 0))))], [(q46, .inl (cy 2, 2, .inl g))]]) hx hb hK hP hD hS 2 rfl k rfl hk9 (by omega) rfl dL_predicted_109 (fun H locs hP hD hS => ?_)
                  refine lv_iload hx hb dL_predicted_110 (lv_at hl 2 rfl) ?_
                  refine lv_bipush (v := 9) hx hb dL_predicted_112 (by decide) ?_
                  refine lv_irem hx hb dL_predicted_114 (by decide) ?_
                  refine lv_iconst (v := 2) hx hb dL_predicted_115 (by decide) ?_
                  refine lv_icmp_ge (tgt := 138) hx hb dL_predicted_116 (by decide) (fun c9 => ?_) (fun c9 => ?_)
                  · refine lv_iinc (v := nI (k + 1)) (lv' := [(7, .int (nI (k + 1))), (6, .int (0)), (5, .int (nI 0)), (4, .ref q46), (3, .ref ro), (2, .ref q6), (1, .int (nI (nB V.σ))), (0, .ref a.aX)]) hx hb dL_predicted_138 hl (k := 0) rfl (m_inc _) (by decide) rfl (fun ls hl => ?_)
                    refine lv_goto (tgt := 80) hx hb dL_predicted_141 (by decide) ?_
                    exact ih3 (k + 1) (by omega) _ (upd f9 k (nI 0)) _ _ _ _ (upd_lt (A := fun i => unT V.σ i (0 + 1)) hf1 (by show _ = unT V.σ k _; rw [hU k hk9, if_pos b9])) (upd_ge (B := fun i => unT V.σ i (0)) hf2) (by omega) (by omega) hP hD hS ls (lv_sub hl [0, 1, 2, 3, 4, 5, 6, 7] rfl)
                  · refine lv_aload_n hx hb dL_predicted_119 rfl (lv_at hl 7 rfl) ?_
                    refine lv_iload hx hb dL_predicted_120 (lv_at hl 0 rfl) ?_
                    refine lv_iload hx hb dL_predicted_122 (lv_at hl 2 rfl) ?_
                    refine lq_SW S9 hLF (q_heatAfter l G cy kS vS a V k (0) ho hk9 (by omega) (by omega)) (bigSW 3 hts (big_at 24 18 rfl) (big_at 0 2 rfl) (big_at 24 20 rfl) (big_at 24 19 rfl) rfl rfl (by decide +kernel) ⟨Nat.le_of_ble_eq_true rfl, Nat.le_of_ble_eq_true rfl⟩) hP hD hS hA rfl hl.1 rfl (Nat.le_of_ble_eq_true rfl) (MC := 360) ⟨rfl, rfl⟩ (5 * d + 1 * d80 + 21) (by omega) (by omega) dL_predicted_124 (fun u H locs cells slots hc hs hP hD hS => ?_)
                    refine lv_aload_n hx hb dL_predicted_127 rfl (lv_at hl 4 rfl) ?_
                    refine lv_iload hx hb dL_predicted_128 (lv_at hl 0 rfl) ?_
                    refine r_row (Wc := [OW cy a V u, rowsW cy ro ra (tickN V.σ 0), [(q6, .inl (cy 2, nB V.σ, .inl (upd f9 k (nI 0))))], [(q46, .inl (cy 2, 2, .inl g))]]) hx hb hK hP 1 rfl k rfl (by rw [tickN_nB]; exact hk9) (by rw [tickN_nB]; exact hN) dL_predicted_130 ?_
                    refine lv_iconst (v := 1) hx hb dL_predicted_131 (by decide) ?_
                    refine r_get (Wc := [OW cy a V u, rowsW cy ro ra (tickN V.σ 0), [(q6, .inl (cy 2, nB V.σ, .inl (upd f9 k (nI 0))))], [(q46, .inl (cy 2, 2, .inl g))]]) (v := hB (tickN V.σ 0) k) hx hb hK hP 1 rfl k 1 rfl (by decide) (by rw [tickN_nB]; exact hk9) rfl dL_predicted_132 ?_
                    refine lv_icmp_eq (tgt := 138) hx hb dL_predicted_133 (by decide) (fun _ => ?_) (fun c9 => absurd rfl c9)
                    refine lv_iinc (v := nI (k + 1)) (lv' := [(7, .int (nI (k + 1))), (6, .int (0)), (5, .int (nI 0)), (4, .ref q46), (3, .ref ro), (2, .ref q6), (1, .int (nI (nB V.σ))), (0, .ref a.aX)]) hx hb dL_predicted_138 hl (k := 0) rfl (m_inc _) (by decide) rfl (fun ls hl => ?_)
                    refine lv_goto (tgt := 80) hx hb dL_predicted_141 (by decide) ?_
                    exact ih3 (k + 1) (by omega) _ (upd f9 k (nI 0)) _ _ _ _ (upd_lt (A := fun i => unT V.σ i (0 + 1)) hf1 (by show _ = unT V.σ k _; rw [hU k hk9, if_pos b9])) (upd_ge (B := fun i => unT V.σ i (0)) hf2) (by omega) (by omega) hP hD hS ls (lv_sub hl [0, 1, 2, 3, 4, 5, 6, 7] rfl)
                · refine lv_icmp_ne (tgt := 105) hx hb dL_predicted_97 (by decide) (fun _ => ?_) (fun c9 => absurd c9 (fun z => b9 ((hbit k hk9).mp z)))
                  refine lv_aload_n hx hb dL_predicted_105 rfl (lv_at hl 5 rfl) ?_
                  refine lv_iload hx hb dL_predicted_106 (lv_at hl 0 rfl) ?_
                  refine c_iald (Wc := [OW cy a V u, rowsW cy ro ra (tickN V.σ 0), [(q6, .inl (cy 2, nB V.σ, .inl f9))], [(q46, .inl (cy 2, 2, .inl g))]]) (v := f9 k) hx hb hK hP 2 rfl k rfl hk9 (by omega) rfl dL_predicted_108 ?_
                  refine c_iast (Wc := [OW cy a V u, rowsW cy ro ra (tickN V.σ 0), [(q6, .inl (cy 2, nB V.σ, .inl f9))], [(q46, .inl (cy 2, 2, .inl g))]]) (Wn := [OW cy a V u, rowsW cy ro ra (tickN V.σ 0), [(q6, .inl (cy 2, nB V.σ, .inl (upd f9 k (f9 k))))], [(q46, .inl (cy 2, 2, .inl g))]]) hx hb hK hP hD hS 2 rfl k rfl hk9 (by omega) rfl dL_predicted_109 (fun H locs hP hD hS => ?_)
                  refine lv_iload hx hb dL_predicted_110 (lv_at hl 2 rfl) ?_
                  refine lv_bipush (v := 9) hx hb dL_predicted_112 (by decide) ?_
                  refine lv_irem hx hb dL_predicted_114 (by decide) ?_
                  refine lv_iconst (v := 2) hx hb dL_predicted_115 (by decide) ?_
                  refine lv_icmp_ge (tgt := 138) hx hb dL_predicted_116 (by decide) (fun c9 => ?_) (fun c9 => ?_)
                  · refine lv_iinc (v := nI (k + 1)) (lv' := [(7, .int (nI (k + 1))), (6, .int (0)), (5, .int (nI 0)), (4, .ref q46), (3, .ref ro), (2, .ref q6), (1, .int (nI (nB V.σ))), (0, .ref a.aX)]) hx hb dL_predicted_138 hl (k := 0) rfl (m_inc _) (by decide) rfl (fun ls hl => ?_)
                    refine lv_goto (tgt := 80) hx hb dL_predicted_141 (by decide) ?_
                    exact ih3 (k + 1) (by omega) _ (upd f9 k (f9 k)) _ _ _ _ (upd_lt (A := fun i => unT V.σ i (0 + 1)) hf1 (by show _ = unT V.σ k _; rw [hU k hk9, if_neg b9]; exact hf2 k (Nat.le_refl k) hk9)) (upd_ge (B := fun i => unT V.σ i (0)) hf2) (by omega) (by omega) hP hD hS ls (lv_sub hl [0, 1, 2, 3, 4, 5, 6, 7] rfl)
                  · refine lv_aload_n hx hb dL_predicted_119 rfl (lv_at hl 7 rfl) ?_
                    refine lv_iload hx hb dL_predicted_120 (lv_at hl 0 rfl) ?_
                    refine lv_iload hx hb dL_predicted_122 (lv_at hl 2 rfl) ?_
                    refine lq_SW S9 hLF (q_heatAfter l G cy kS vS a V k (0) ho hk9 (by omega) (by omega)) (bigSW 3 hts (big_at 24 18 rfl) (big_at 0 2 rfl) (big_at 24 20 rfl) (big_at 24 19 rfl) rfl rfl (by decide +kernel) ⟨Nat.le_of_ble_eq_true rfl, Nat.le_of_ble_eq_true rfl⟩) hP hD hS hA rfl hl.1 rfl (Nat.le_of_ble_eq_true rfl) (MC := 360) ⟨rfl, rfl⟩ (5 * d + 1 * d80 + 21) (by omega) (by omega) dL_predicted_124 (fun u H locs cells slots hc hs hP hD hS => ?_)
                    refine lv_aload_n hx hb dL_predicted_127 rfl (lv_at hl 4 rfl) ?_
                    refine lv_iload hx hb dL_predicted_128 (lv_at hl 0 rfl) ?_
                    refine r_row (Wc := [OW cy a V u, rowsW cy ro ra (tickN V.σ 0), [(q6, .inl (cy 2, nB V.σ, .inl (upd f9 k (f9 k))))], [(q46, .inl (cy 2, 2, .inl g))]]) hx hb hK hP 1 rfl k rfl (by rw [tickN_nB]; exact hk9) (by rw [tickN_nB]; exact hN) dL_predicted_130 ?_
                    refine lv_iconst (v := 1) hx hb dL_predicted_131 (by decide) ?_
                    refine r_get (Wc := [OW cy a V u, rowsW cy ro ra (tickN V.σ 0), [(q6, .inl (cy 2, nB V.σ, .inl (upd f9 k (f9 k))))], [(q46, .inl (cy 2, 2, .inl g))]]) (v := hB (tickN V.σ 0) k) hx hb hK hP 1 rfl k 1 rfl (by decide) (by rw [tickN_nB]; exact hk9) rfl dL_predicted_132 ?_
                    refine lv_icmp_eq (tgt := 138) hx hb dL_predicted_133 (by decide) (fun _ => ?_) (fun c9 => absurd rfl c9)
                    refine lv_iinc (v := nI (k + 1)) (lv' := [(7, .int (nI (k + 1))), (6, .int (0)), (5, .int (nI 0)), (4, .ref q46), (3, .ref ro), (2, .ref q6), (1, .int (nI (nB V.σ))), (0, .ref a.aX)]) hx hb dL_predicted_138 hl (k := 0) rfl (m_inc _) (by decide) rfl (fun ls hl => ?_)
                    refine lv_goto (tgt := 80) hx hb dL_predicted_141 (by decide) ?_
                    exact ih3 (k + 1) (by omega) _ (upd f9 k (f9 k)) _ _ _ _ (upd_lt (A := fun i => unT V.σ i (0 + 1)) hf1 (by show _ = unT V.σ k _; rw [hU k hk9, if_neg b9]; exact hf2 k (Nat.le_refl k) hk9)) (upd_ge (B := fun i => unT V.σ i (0)) hf2) (by omega) (by omega) hP hD hS ls (lv_sub hl [0, 1, 2, 3, 4, 5, 6, 7] rfl)
            exact L80 (nB V.σ) 0 (by omega) _ f _ _ _ _ (fun i hi => absurd hi (Nat.not_lt_zero i)) (fun i _ hi => hf i hi) (by omega) (by omega) hP hD hS ls (lv_sub hl [0, 1, 2, 3, 4, 5, 6, 7] rfl)
          · obtain ⟨t, rfl⟩ : ∃ z, t = z + 1 := ⟨t - 1, by omega⟩
            have hl : lv_has ls 8 [(5, .int (nI (t + 1))), (4, .ref q46), (3, .ref ro), (2, .ref q6), (1, .int (nI (nB V.σ))), (0, .ref a.aX)] := hl
            have hP : va_P G vwCl (fl [OW cy a V u, rowsW cy ro ra (tickN V.σ t), [(q6, .inl (cy 2, nB V.σ, .inl f))], [(q46, .inl (cy 2, 2, .inl g))]]) H := hP
            have hD : va_D (va_A (OW cy a V u0) s.heap.size) (fl [OW cy a V u, rowsW cy ro ra (tickN V.σ t), [(q6, .inl (cy 2, nB V.σ, .inl f))], [(q46, .inl (cy 2, 2, .inl g))]]) := hD
            refine lv_if_ne (tgt := 69) hx hb dL_predicted_62 (by decide) (fun _ => ?_) (fun c9 => absurd c9 (fun z => absurd ((nI_eq (by omega) (by omega)).mp (show nI (t + 1) = nI 0 from z)) (by omega)))
            refine lv_aload_n hx hb dL_predicted_69 rfl (lv_at hl 2 rfl) ?_
            refine lv_aload hx hb dL_predicted_70 (lv_at hl 1 rfl) ?_
            have hnt := tickN_nB V.σ t
            refine t_S S9 hK (n_tick l G cy ro ra q46 (tickN V.σ t) (n0 + t) (inv_tickN hI t (by omega))) (tickS_nB _) (bigS 2 hts (big_at 24 15 rfl) (big_at 0 2 rfl) (big_at 24 17 rfl) (big_at 24 16 rfl) rfl rfl (by decide +kernel) ⟨Nat.le_of_ble_eq_true rfl, Nat.le_of_ble_eq_true rfl⟩) (Wc := [OW cy a V u, rowsW cy ro ra (tickN V.σ t), [(q6, .inl (cy 2, nB V.σ, .inl f))], [(q46, .inl (cy 2, 2, .inl g))]]) hP hD hS hl.1 (Nat.le_of_ble_eq_true rfl) 1 3 rfl rfl (by decide) (fun g => [OW cy a V u, rowsW cy ro ra (tickN V.σ (t + 1)), [(q6, .inl (cy 2, nB V.σ, .inl f))], [(q46, .inl (cy 2, 2, .inl g))]]) (fun _ => rfl) ⟨(show _ ≤ 360 by omega), (show _ ≤ 64 * 360 by omega)⟩ dL_predicted_72 (fun g H locs hP hD hS => ?_)
            have hP : va_P G vwCl (fl [OW cy a V u, rowsW cy ro ra (tickN V.σ (t + 1)), [(q6, .inl (cy 2, nB V.σ, .inl f))], [(q46, .inl (cy 2, 2, .inl g))]]) H := hP
            have hD : va_D (va_A (OW cy a V u0) s.heap.size) (fl [OW cy a V u, rowsW cy ro ra (tickN V.σ (t + 1)), [(q6, .inl (cy 2, nB V.σ, .inl f))], [(q46, .inl (cy 2, 2, .inl g))]]) := hD
            refine lv_istore (lv' := [(6, .int (gnF (gnB (shaS (draS (losS (tickN V.σ t))))) (nB (tickN V.σ t)))), (5, .int (nI (t + 1))), (4, .ref q46), (3, .ref ro), (2, .ref q6), (1, .int (nI (nB V.σ))), (0, .ref a.aX)]) hx hb dL_predicted_75 hl (by decide) rfl (fun ls hl => ?_)
            refine lv_iconst (v := 0) hx hb dL_predicted_77 (by decide) ?_
            refine lv_istore (lv' := [(7, .int 0), (6, .int (gnF (gnB (shaS (draS (losS (tickN V.σ t))))) (nB (tickN V.σ t)))), (5, .int (nI (t + 1))), (4, .ref q46), (3, .ref ro), (2, .ref q6), (1, .int (nI (nB V.σ))), (0, .ref a.aX)]) hx hb dL_predicted_78 hl (by decide) rfl (fun ls hl => ?_)
            have hbit : ∀ k, k < nB V.σ → ((((gnF (gnB (shaS (draS (losS (tickN V.σ t))))) (nB (tickN V.σ t))) : Int32) >>> (nI k &&& 31)) &&& 1 = 1 ↔ (gnB (shaS (draS (losS (tickN V.σ t))))) k = true) := (fun k hk => gnF_bit (by omega) (by omega))
            have hU : ∀ k, k < nB V.σ → unT V.σ k (t + 1 + 1) = (if (gnB (shaS (draS (losS (tickN V.σ t))))) k = true then nI (t + 1) else unT V.σ k (t + 1)) := by
              intro k hk
              have e := gnB_iff (σ := tickN V.σ t) (k := k) (by omega)
              rw [unT]
              by_cases z : mB (tickN V.σ t) k = mB (tickN V.σ (t + 1)) k
              · rw [if_pos z, if_neg (fun w => e.mp w z)]
              · rw [if_neg z, if_pos (e.mpr z)]
            have L80 : ∀ (d80 k : Nat), k + d80 = nB V.σ → ∀ (u : OU) (f9 : Nat → Int32) (H : Heap) (locs : List Loc) (cells slots : Nat), (∀ i, i < k → f9 i = unT V.σ i (t + 1 + 1)) → (∀ i, k ≤ i → i < nB V.σ → f9 i = unT V.σ i (t + 1)) → cells + (5 * d + 1 * d80 + 21) ≤ 360 → slots + 64 * (5 * d + 1 * d80 + 21) ≤ 64 * 360 → va_P G vwCl (fl [OW cy a V u, rowsW cy ro ra (tickN V.σ (t + 1)), [(q6, .inl (cy 2, nB V.σ, .inl f9))], [(q46, .inl (cy 2, 2, .inl g))]]) H → va_D (va_A (OW cy a V u0) s.heap.size) (fl [OW cy a V u, rowsW cy ro ra (tickN V.σ (t + 1)), [(q6, .inl (cy 2, nB V.σ, .inl f9))], [(q46, .inl (cy 2, 2, .inl g))]]) → va_S (va_A (OW cy a V u0) s.heap.size) s.heap H locs → ∀ ls : Array Slot, lv_has ls 8 [(7, .int (nI k)), (6, .int (gnF (gnB (shaS (draS (losS (tickN V.σ t))))) (nB (tickN V.σ t)))), (5, .int (nI (t + 1))), (4, .ref q46), (3, .ref ro), (2, .ref q6), (1, .int (nI (nB V.σ))), (0, .ref a.aX)] → W p l e ({ frames := 14, cells := 360, slots := 64 * 360, locals := 400 } : Room) s m ([.ref a.aX] : List Value).toArray below meth cq H locs cells slots (lxZ below ([.ref a.aX] : List Value).toArray s G cy a V u0 (fun V2 r2 => V2 = V ∧ r2 = .int 1) 360) (F0 m 80 ls []) := by
              intro d80
              induction d80 with
              | zero =>
                intro k hk u f9 H locs cells slots hf1 hf2 hc hs hP hD hS ls hl
                have hk9 : k = nB V.σ := by omega
                subst hk9
                refine lv_iload hx hb dL_predicted_80 (lv_at hl 0 rfl) ?_
                refine lv_iload_n hx hb dL_predicted_82 rfl (lv_at hl 6 rfl) ?_
                refine lv_icmp_ge (tgt := 144) hx hb dL_predicted_83 (by decide) (fun _ => ?_) (fun c9 => absurd (Int32.le_refl _) c9)
                refine lv_iinc (v := nI ((t + 1) + 1)) (lv' := [(5, .int (nI ((t + 1) + 1))), (7, .int (nI (nB V.σ))), (6, .int (gnF (gnB (shaS (draS (losS (tickN V.σ t))))) (nB (tickN V.σ t)))), (4, .ref q46), (3, .ref ro), (2, .ref q6), (1, .int (nI (nB V.σ))), (0, .ref a.aX)]) hx hb dL_predicted_144 hl (k := 2) rfl (m_inc _) (by decide) rfl (fun ls hl => ?_)
                refine lv_goto (tgt := 53) hx hb dL_predicted_147 (by decide) ?_
                exact ih (t + 1 + 1) (by omega) _ f9 g _ _ _ _ (fun i hi => hf1 i hi) (by omega) (by omega) hP hD hS ls (lv_sub hl [0, 3, 4, 5, 6, 7] rfl)
              | succ d80 ih3 =>
                intro k hk u f9 H locs cells slots hf1 hf2 hc hs hP hD hS ls hl
                have hk9 : k < nB V.σ := by omega
                refine lv_iload hx hb dL_predicted_80 (lv_at hl 0 rfl) ?_
                refine lv_iload_n hx hb dL_predicted_82 rfl (lv_at hl 6 rfl) ?_
                refine lv_icmp_ge (tgt := 144) hx hb dL_predicted_83 (by decide) (fun c9 => absurd c9 (fun q => absurd ((nI_leI (by omega) (by omega)).mp q) (by omega))) (fun _ => ?_)
                refine lv_aload_n hx hb dL_predicted_86 rfl (lv_at hl 5 rfl) ?_
                refine lv_iload hx hb dL_predicted_87 (lv_at hl 0 rfl) ?_
                refine lv_iload hx hb dL_predicted_89 (lv_at hl 1 rfl) ?_
                refine lv_iload hx hb dL_predicted_91 (lv_at hl 0 rfl) ?_
                refine lv_ishr hx hb dL_predicted_93 ?_
                refine lv_iconst (v := 1) hx hb dL_predicted_94 (by decide) ?_
                refine lv_iand hx hb dL_predicted_95 ?_
                refine lv_iconst (v := 1) hx hb dL_predicted_96 (by decide) ?_
                by_cases b9 : (gnB (shaS (draS (losS (tickN V.σ t))))) k = true
                · refine lv_icmp_ne (tgt := 105) hx hb dL_predicted_97 (by decide) (fun c9 => absurd ((hbit k hk9).mpr b9) c9) (fun _ => ?_)
                  refine lv_iload hx hb dL_predicted_100 (lv_at hl 2 rfl) ?_
                  refine lv_goto (tgt := 109) hx hb dL_predicted_102 (by decide) ?_
                  refine c_iast (Wc := [OW cy a V u, rowsW cy ro ra (tickN V.σ (t + 1)), [(q6, .inl (cy 2, nB V.σ, .inl f9))], [(q46, .inl (cy 2, 2, .inl g))]]) (Wn := [OW cy a V u, rowsW cy ro ra (tickN V.σ (t + 1)), [(q6, .inl (cy 2, nB V.σ, .inl (upd f9 k (nI (t + 1)))))], [(q46, .inl (cy 2, 2, .inl g))]]) hx hb hK hP hD hS 2 rfl k rfl hk9 (by omega) rfl dL_predicted_109 (fun H locs hP hD hS => ?_)
                  refine lv_iload hx hb dL_predicted_110 (lv_at hl 2 rfl) ?_
                  refine lv_bipush (v := 9) hx hb dL_predicted_112 (by decide) ?_
                  refine lv_irem hx hb dL_predicted_114 (by decide) ?_
                  refine lv_iconst (v := 2) hx hb dL_predicted_115 (by decide) ?_
                  refine lv_icmp_ge (tgt := 138) hx hb dL_predicted_116 (by decide) (fun c9 => ?_) (fun c9 => ?_)
                  · refine lv_iinc (v := nI (k + 1)) (lv' := [(7, .int (nI (k + 1))), (6, .int (gnF (gnB (shaS (draS (losS (tickN V.σ t))))) (nB (tickN V.σ t)))), (5, .int (nI (t + 1))), (4, .ref q46), (3, .ref ro), (2, .ref q6), (1, .int (nI (nB V.σ))), (0, .ref a.aX)]) hx hb dL_predicted_138 hl (k := 0) rfl (m_inc _) (by decide) rfl (fun ls hl => ?_)
                    refine lv_goto (tgt := 80) hx hb dL_predicted_141 (by decide) ?_
                    exact ih3 (k + 1) (by omega) _ (upd f9 k (nI (t + 1))) _ _ _ _ (upd_lt (A := fun i => unT V.σ i (t + 1 + 1)) hf1 (by show _ = unT V.σ k _; rw [hU k hk9, if_pos b9])) (upd_ge (B := fun i => unT V.σ i (t + 1)) hf2) (by omega) (by omega) hP hD hS ls (lv_sub hl [0, 1, 2, 3, 4, 5, 6, 7] rfl)
                  · refine lv_aload_n hx hb dL_predicted_119 rfl (lv_at hl 7 rfl) ?_
                    refine lv_iload hx hb dL_predicted_120 (lv_at hl 0 rfl) ?_
                    refine lv_iload hx hb dL_predicted_122 (lv_at hl 2 rfl) ?_
                    refine lq_SW S9 hLF (q_heatAfter l G cy kS vS a V k (t + 1) ho hk9 (by omega) (by omega)) (bigSW 3 hts (big_at 24 18 rfl) (big_at 0 2 rfl) (big_at 24 20 rfl) (big_at 24 19 rfl) rfl rfl (by decide +kernel) ⟨Nat.le_of_ble_eq_true rfl, Nat.le_of_ble_eq_true rfl⟩) hP hD hS hA rfl hl.1 rfl (Nat.le_of_ble_eq_true rfl) (MC := 360) ⟨rfl, rfl⟩ (5 * d + 1 * d80 + 21) (by omega) (by omega) dL_predicted_124 (fun u H locs cells slots hc hs hP hD hS => ?_)
                    refine lv_aload_n hx hb dL_predicted_127 rfl (lv_at hl 4 rfl) ?_
                    refine lv_iload hx hb dL_predicted_128 (lv_at hl 0 rfl) ?_
                    refine r_row (Wc := [OW cy a V u, rowsW cy ro ra (tickN V.σ (t + 1)), [(q6, .inl (cy 2, nB V.σ, .inl (upd f9 k (nI (t + 1)))))], [(q46, .inl (cy 2, 2, .inl g))]]) hx hb hK hP 1 rfl k rfl (by rw [tickN_nB]; exact hk9) (by rw [tickN_nB]; exact hN) dL_predicted_130 ?_
                    refine lv_iconst (v := 1) hx hb dL_predicted_131 (by decide) ?_
                    refine r_get (Wc := [OW cy a V u, rowsW cy ro ra (tickN V.σ (t + 1)), [(q6, .inl (cy 2, nB V.σ, .inl (upd f9 k (nI (t + 1)))))], [(q46, .inl (cy 2, 2, .inl g))]]) (v := hB (tickN V.σ (t + 1)) k) hx hb hK hP 1 rfl k 1 rfl (by decide) (by rw [tickN_nB]; exact hk9) rfl dL_predicted_132 ?_
                    refine lv_icmp_eq (tgt := 138) hx hb dL_predicted_133 (by decide) (fun _ => ?_) (fun c9 => absurd rfl c9)
                    refine lv_iinc (v := nI (k + 1)) (lv' := [(7, .int (nI (k + 1))), (6, .int (gnF (gnB (shaS (draS (losS (tickN V.σ t))))) (nB (tickN V.σ t)))), (5, .int (nI (t + 1))), (4, .ref q46), (3, .ref ro), (2, .ref q6), (1, .int (nI (nB V.σ))), (0, .ref a.aX)]) hx hb dL_predicted_138 hl (k := 0) rfl (m_inc _) (by decide) rfl (fun ls hl => ?_)
                    refine lv_goto (tgt := 80) hx hb dL_predicted_141 (by decide) ?_
                    exact ih3 (k + 1) (by omega) _ (upd f9 k (nI (t + 1))) _ _ _ _ (upd_lt (A := fun i => unT V.σ i (t + 1 + 1)) hf1 (by show _ = unT V.σ k _; rw [hU k hk9, if_pos b9])) (upd_ge (B := fun i => unT V.σ i (t + 1)) hf2) (by omega) (by omega) hP hD hS ls (lv_sub hl [0, 1, 2, 3, 4, 5, 6, 7] rfl)
                · refine lv_icmp_ne (tgt := 105) hx hb dL_predicted_97 (by decide) (fun _ => ?_) (fun c9 => absurd c9 (fun z => b9 ((hbit k hk9).mp z)))
                  refine lv_aload_n hx hb dL_predicted_105 rfl (lv_at hl 5 rfl) ?_
                  refine lv_iload hx hb dL_predicted_106 (lv_at hl 0 rfl) ?_
                  refine c_iald (Wc := [OW cy a V u, rowsW cy ro ra (tickN V.σ (t + 1)), [(q6, .inl (cy 2, nB V.σ, .inl f9))], [(q46, .inl (cy 2, 2, .inl g))]]) (v := f9 k) hx hb hK hP 2 rfl k rfl hk9 (by omega) rfl dL_predicted_108 ?_
                  refine c_iast (Wc := [OW cy a V u, rowsW cy ro ra (tickN V.σ (t + 1)), [(q6, .inl (cy 2, nB V.σ, .inl f9))], [(q46, .inl (cy 2, 2, .inl g))]]) (Wn := [OW cy a V u, rowsW cy ro ra (tickN V.σ (t + 1)), [(q6, .inl (cy 2, nB V.σ, .inl (upd f9 k (f9 k))))], [(q46, .inl (cy 2, 2, .inl g))]]) hx hb hK hP hD hS 2 rfl k rfl hk9 (by omega) rfl dL_predicted_109 (fun H locs hP hD hS => ?_)
                  refine lv_iload hx hb dL_predicted_110 (lv_at hl 2 rfl) ?_
                  refine lv_bipush (v := 9) hx hb dL_predicted_112 (by decide) ?_
                  refine lv_irem hx hb dL_predicted_114 (by decide) ?_
                  refine lv_iconst (v := 2) hx hb dL_predicted_115 (by decide) ?_
                  refine lv_icmp_ge (tgt := 138) hx hb dL_predicted_116 (by decide) (fun c9 => ?_) (fun c9 => ?_)
                  · refine lv_iinc (v := nI (k + 1)) (lv' := [(7, .int (nI (k + 1))), (6, .int (gnF (gnB (shaS (draS (losS (tickN V.σ t))))) (nB (tickN V.σ t)))), (5, .int (nI (t + 1))), (4, .ref q46), (3, .ref ro), (2, .ref q6), (1, .int (nI (nB V.σ))), (0, .ref a.aX)]) hx hb dL_predicted_138 hl (k := 0) rfl (m_inc _) (by decide) rfl (fun ls hl => ?_)
                    refine lv_goto (tgt := 80) hx hb dL_predicted_141 (by decide) ?_
                    exact ih3 (k + 1) (by omega) _ (upd f9 k (f9 k)) _ _ _ _ (upd_lt (A := fun i => unT V.σ i (t + 1 + 1)) hf1 (by show _ = unT V.σ k _; rw [hU k hk9, if_neg b9]; exact hf2 k (Nat.le_refl k) hk9)) (upd_ge (B := fun i => unT V.σ i (t + 1)) hf2) (by omega) (by omega) hP hD hS ls (lv_sub hl [0, 1, 2, 3, 4, 5, 6, 7] rfl)
                  · refine lv_aload_n hx hb dL_predicted_119 rfl (lv_at hl 7 rfl) ?_
                    refine lv_iload hx hb dL_predicted_120 (lv_at hl 0 rfl) ?_
                    refine lv_iload hx hb dL_predicted_122 (lv_at hl 2 rfl) ?_
                    refine lq_SW S9 hLF (q_heatAfter l G cy kS vS a V k (t + 1) ho hk9 (by omega) (by omega)) (bigSW 3 hts (big_at 24 18 rfl) (big_at 0 2 rfl) (big_at 24 20 rfl) (big_at 24 19 rfl) rfl rfl (by decide +kernel) ⟨Nat.le_of_ble_eq_true rfl, Nat.le_of_ble_eq_true rfl⟩) hP hD hS hA rfl hl.1 rfl (Nat.le_of_ble_eq_true rfl) (MC := 360) ⟨rfl, rfl⟩ (5 * d + 1 * d80 + 21) (by omega) (by omega) dL_predicted_124 (fun u H locs cells slots hc hs hP hD hS => ?_)
                    refine lv_aload_n hx hb dL_predicted_127 rfl (lv_at hl 4 rfl) ?_
                    refine lv_iload hx hb dL_predicted_128 (lv_at hl 0 rfl) ?_
                    refine r_row (Wc := [OW cy a V u, rowsW cy ro ra (tickN V.σ (t + 1)), [(q6, .inl (cy 2, nB V.σ, .inl (upd f9 k (f9 k))))], [(q46, .inl (cy 2, 2, .inl g))]]) hx hb hK hP 1 rfl k rfl (by rw [tickN_nB]; exact hk9) (by rw [tickN_nB]; exact hN) dL_predicted_130 ?_
                    refine lv_iconst (v := 1) hx hb dL_predicted_131 (by decide) ?_
                    refine r_get (Wc := [OW cy a V u, rowsW cy ro ra (tickN V.σ (t + 1)), [(q6, .inl (cy 2, nB V.σ, .inl (upd f9 k (f9 k))))], [(q46, .inl (cy 2, 2, .inl g))]]) (v := hB (tickN V.σ (t + 1)) k) hx hb hK hP 1 rfl k 1 rfl (by decide) (by rw [tickN_nB]; exact hk9) rfl dL_predicted_132 ?_
                    refine lv_icmp_eq (tgt := 138) hx hb dL_predicted_133 (by decide) (fun _ => ?_) (fun c9 => absurd rfl c9)
                    refine lv_iinc (v := nI (k + 1)) (lv' := [(7, .int (nI (k + 1))), (6, .int (gnF (gnB (shaS (draS (losS (tickN V.σ t))))) (nB (tickN V.σ t)))), (5, .int (nI (t + 1))), (4, .ref q46), (3, .ref ro), (2, .ref q6), (1, .int (nI (nB V.σ))), (0, .ref a.aX)]) hx hb dL_predicted_138 hl (k := 0) rfl (m_inc _) (by decide) rfl (fun ls hl => ?_)
                    refine lv_goto (tgt := 80) hx hb dL_predicted_141 (by decide) ?_
                    exact ih3 (k + 1) (by omega) _ (upd f9 k (f9 k)) _ _ _ _ (upd_lt (A := fun i => unT V.σ i (t + 1 + 1)) hf1 (by show _ = unT V.σ k _; rw [hU k hk9, if_neg b9]; exact hf2 k (Nat.le_refl k) hk9)) (upd_ge (B := fun i => unT V.σ i (t + 1)) hf2) (by omega) (by omega) hP hD hS ls (lv_sub hl [0, 1, 2, 3, 4, 5, 6, 7] rfl)
            exact L80 (nB V.σ) 0 (by omega) _ f _ _ _ _ (fun i hi => absurd hi (Nat.not_lt_zero i)) (fun i _ hi => hf i hi) (by omega) (by omega) hP hD hS ls (lv_sub hl [0, 1, 2, 3, 4, 5, 6, 7] rfl)
      exact L53 (61) 0 (by omega) _ g (fun _ => 0) _ _ _ _ (fun i hi => hg i hi) (by omega) (by omega) hP hD hS ls (lv_sub hl [0, 1, 2, 3, 4, 5] rfl)
    | succ d ih =>
      intro k hk u g H locs cells slots hg hc hs hP hD hS ls hl
      have hk9 : k < nB V.σ := by omega
      refine lv_iload_n hx hb dL_predicted_11 rfl (lv_at hl 0 rfl) ?_
      refine lv_iload_n hx hb dL_predicted_12 rfl (lv_at hl 2 rfl) ?_
      refine lv_icmp_ge (tgt := 40) hx hb dL_predicted_13 (by decide) (fun c9 => absurd c9 (fun q => absurd ((nI_leI (by omega) (by omega)).mp q) (by omega))) (fun _ => ?_)
      refine lv_aload_n hx hb dL_predicted_16 rfl (lv_at hl 1 rfl) ?_
      refine lv_iload_n hx hb dL_predicted_17 rfl (lv_at hl 0 rfl) ?_
      refine lv_aload_n hx hb dL_predicted_18 rfl (lv_at hl 3 rfl) ?_
      refine lv_iload_n hx hb dL_predicted_19 rfl (lv_at hl 0 rfl) ?_
      refine lq_V S9 hLF (d_isMember l G cy kS vS a V k ho hk9) (bigV 1 hts (big_at 17 11 rfl) (big_at 0 6 rfl) (big_at 17 14 rfl) (big_at 17 12 rfl) (big_at 17 13 rfl) rfl rfl (by decide +kernel) ⟨Nat.le_of_ble_eq_true rfl, Nat.le_of_ble_eq_true rfl⟩) hP hD hS hA rfl hl.1 rfl (Nat.le_of_ble_eq_true rfl) (MC := 360) ⟨rfl, rfl⟩ (0 * d + 350) (by omega) (by omega) dL_predicted_20 (fun u H locs cells slots hc hs hP hD hS => ?_)
      rcases hm k (by omega) with m9 | m9
      · have m8 := m9
        refine lv_if_eq (tgt := 31) hx hb dL_predicted_23 (by decide) (fun _ => ?_) (fun c9 => absurd m9 c9)
        refine lv_bipush (v := (-14)) hx hb dL_predicted_31 (by decide) ?_
        refine c_iast (Wc := [OW cy a V u, [(q6, .inl (cy 2, nB V.σ, .inl g))]]) (Wn := [OW cy a V u, [(q6, .inl (cy 2, nB V.σ, .inl (upd g k (-14))))]]) hx hb hK hP hD hS 1 rfl k rfl hk9 (by omega) rfl dL_predicted_33 (fun H locs hP hD hS => ?_)
        refine lv_iinc (v := nI (k + 1)) (lv' := [(3, .int (nI (k + 1))), (2, .ref q6), (1, .int (nI (nB V.σ))), (0, .ref a.aX)]) hx hb dL_predicted_34 hl (k := 0) rfl (m_inc _) (by decide) rfl (fun ls hl => ?_)
        refine lv_goto (tgt := 11) hx hb dL_predicted_37 (by decide) ?_
        exact ih (k + 1) (by omega) _ (upd g k (-14)) _ _ _ _ (upd_lt (A := fun i => unT V.σ i 0) hg (by show _ = (if mB V.σ k = 0 then (-14 : Int32) else -13); rw [if_pos m8])) (by omega) (by omega) hP hD hS ls (lv_sub hl [0, 1, 2, 3] rfl)
      · have m8 : ¬ mB V.σ k = 0 := by rw [m9]; decide
        refine lv_if_eq (tgt := 31) hx hb dL_predicted_23 (by decide) (fun c9 => absurd c9 m8) (fun _ => ?_)
        refine lv_bipush (v := (-13)) hx hb dL_predicted_26 (by decide) ?_
        refine lv_goto (tgt := 33) hx hb dL_predicted_28 (by decide) ?_
        refine c_iast (Wc := [OW cy a V u, [(q6, .inl (cy 2, nB V.σ, .inl g))]]) (Wn := [OW cy a V u, [(q6, .inl (cy 2, nB V.σ, .inl (upd g k (-13))))]]) hx hb hK hP hD hS 1 rfl k rfl hk9 (by omega) rfl dL_predicted_33 (fun H locs hP hD hS => ?_)
        refine lv_iinc (v := nI (k + 1)) (lv' := [(3, .int (nI (k + 1))), (2, .ref q6), (1, .int (nI (nB V.σ))), (0, .ref a.aX)]) hx hb dL_predicted_34 hl (k := 0) rfl (m_inc _) (by decide) rfl (fun ls hl => ?_)
        refine lv_goto (tgt := 11) hx hb dL_predicted_37 (by decide) ?_
        exact ih (k + 1) (by omega) _ (upd g k (-13)) _ _ _ _ (upd_lt (A := fun i => unT V.σ i 0) hg (by show _ = (if mB V.σ k = 0 then (-14 : Int32) else -13); rw [if_neg m8])) (by omega) (by omega) hP hD hS ls (lv_sub hl [0, 1, 2, 3] rfl)
  exact L11 (nB V.σ) 0 (by omega) _ (fun _ => 0) _ _ _ _ (fun i hi => absurd hi (Nat.not_lt_zero i)) (by omega) (by omega) hP hD hS ls (lv_sub hl [0, 1, 2, 3] rfl)
