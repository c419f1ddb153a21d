/-! ducks -/
set_option maxRecDepth 100000 in
set_option maxHeartbeats 2000000 in
theorem n_ducks (l : Launch) (G : va_G) (cy : Nat → ClassId) (kS vS : Nat → Nat) (a : OA) (V : OV) (n0 : Nat) (hl9 : l.stackTraces = false) (hI : Inv n0 V.σ) (hn0 : n0 < 400000000) (hE : Ev2 V.σ) : LQ l yL_ducks 14 400 90 G cy kS vS a V V [.ref a.aX] (.int 1) := by
  refine LX.ofW (cc := cL_ducks) (maxL := 7) (ret := (some .boolean)) (by decide) (big_at 26 2 rfl) (Nat.le_of_ble_eq_true rfl) ?_
  intro p e s m below meth cq u0 S9 hr hlocks hPQ hD hS hA ls hl
  obtain ⟨hx, hb, hml, hown, hts⟩ := id S9
  have hLF := LF.mk hPQ
  have hK := hLF.1
  have hP : va_P G vwCl (fl [OW cy a V u0]) s.heap := hPQ.1.1
  have hD : va_D (va_A (OW cy a V u0) s.heap.size) (fl [OW cy a V u0]) := hD
  have hc : 0 + 90 ≤ 90 := Nat.le_of_ble_eq_true rfl
  have hs : 0 + 64 * 90 ≤ 64 * 90 := Nat.le_of_ble_eq_true rfl
  have hl : lv_has ls 7 [(0, .ref a.aX)] := hl
  have ho := hI.1
  have hN := ho.1
  have hDu := ho.2.1
  refine lv_aload_n hx hb dL_ducks_0 rfl (lv_at hl 0 rfl) ?_
  refine lq_V S9 hLF (d_duckCount l G cy kS vS a V ho) (bigV 0 hts (big_at 26 3 rfl) (big_at 0 6 rfl) (big_at 26 6 rfl) (big_at 26 4 rfl) (big_at 26 5 rfl) rfl rfl (by decide +kernel) ⟨Nat.le_of_ble_eq_true rfl, Nat.le_of_ble_eq_true rfl⟩) hP hD hS hA rfl hl.1 rfl (Nat.le_of_ble_eq_true rfl) (MC := 90) ⟨rfl, rfl⟩ (90) (by omega) (by omega) dL_ducks_1 (fun u H locs cells slots hc hs hP hD hS => ?_)
  refine lv_istore_n (lv' := [(1, .int (nI (nD V.σ))), (0, .ref a.aX)]) hx hb dL_ducks_4 rfl hl (by decide) rfl (fun ls hl => ?_)
  refine lv_iconst (v := 0) hx hb dL_ducks_5 (by decide) ?_
  refine lv_istore_n (lv' := [(2, .int 0), (1, .int (nI (nD V.σ))), (0, .ref a.aX)]) hx hb dL_ducks_6 rfl hl (by decide) rfl (fun ls hl => ?_)
  refine lv_iconst (v := 0) hx hb dL_ducks_7 (by decide) ?_
  refine lv_istore_n (lv' := [(3, .int 0), (2, .int 0), (1, .int (nI (nD V.σ))), (0, .ref a.aX)]) hx hb dL_ducks_8 rfl hl (by decide) rfl (fun ls hl => ?_)
  have L9 : ∀ (d k : Nat), k + d = nD V.σ → ∀ (u : OU) (H : Heap) (locs : List Loc) (cells slots : Nat), cells + (6 * d + 50) ≤ 90 → slots + 64 * (6 * d + 50) ≤ 64 * 90 → va_P G vwCl (fl [OW cy a V u]) H → va_D (va_A (OW cy a V u0) s.heap.size) (fl [OW cy a V u]) → va_S (va_A (OW cy a V u0) s.heap.size) s.heap H locs → ∀ ls : Array Slot, lv_has ls 7 [(3, .int (nI k)), (2, .int (cntP (plS V.σ) k)), (1, .int (nI (nD V.σ))), (0, .ref a.aX)] → W p l e ({ frames := 14, cells := 90, slots := 64 * 90, locals := 400 } : Room) s m ([.ref a.aX] : List Value).toArray below meth cq H locs cells slots (lxZ below ([.ref a.aX] : List Value).toArray s G cy a V u0 (fun V2 r2 => V2 = V ∧ r2 = .int 1) 90) (F0 m 9 ls []) := by
    intro d
    induction d with
    | zero =>
      intro k hk u H locs cells slots hc hs hP hD hS ls hl
      have hk9 : k = nD V.σ := by omega
      subst hk9
      refine lv_iload_n hx hb dL_ducks_9 rfl (lv_at hl 0 rfl) ?_
      refine lv_iload_n hx hb dL_ducks_10 rfl (lv_at hl 2 rfl) ?_
      refine lv_icmp_ge (tgt := 99) hx hb dL_ducks_11 (by decide) (fun _ => ?_) (fun c9 => absurd (Int32.le_refl _) c9)
      refine lv_iconst (v := 1) hx hb dL_ducks_99 (by decide) ?_
      refine lv_istore_n (lv' := [(3, .int 1), (2, .int (cntP (plS V.σ) (nD V.σ))), (1, .int (nI (nD V.σ))), (0, .ref a.aX)]) hx hb dL_ducks_100 rfl hl (by decide) rfl (fun ls hl => ?_)
      have L101 : ∀ (d k : Nat), k + d = (nD V.σ - 1) → ∀ (u : OU) (H : Heap) (locs : List Loc) (cells slots : Nat), cells + (6 * d + 8) ≤ 90 → slots + 64 * (6 * d + 8) ≤ 64 * 90 → va_P G vwCl (fl [OW cy a V u]) H → va_D (va_A (OW cy a V u0) s.heap.size) (fl [OW cy a V u]) → va_S (va_A (OW cy a V u0) s.heap.size) s.heap H locs → ∀ ls : Array Slot, lv_has ls 7 [(3, .int (nI (k + 1))), (2, .int (cntP (plS V.σ) (nD V.σ))), (1, .int (nI (nD V.σ))), (0, .ref a.aX)] → W p l e ({ frames := 14, cells := 90, slots := 64 * 90, locals := 400 } : Room) s m ([.ref a.aX] : List Value).toArray below meth cq H locs cells slots (lxZ below ([.ref a.aX] : List Value).toArray s G cy a V u0 (fun V2 r2 => V2 = V ∧ r2 = .int 1) 90) (F0 m 101 ls []) := by
        intro d
        induction d with
        | zero =>
          intro k hk u H locs cells slots hc hs hP hD hS ls hl
          have hk9 : k = (nD V.σ - 1) := by omega
          refine lv_iload_n hx hb dL_ducks_101 rfl (lv_at hl 0 rfl) ?_
          refine lv_iload_n hx hb dL_ducks_102 rfl (lv_at hl 2 rfl) ?_
          refine lv_icmp_ge (tgt := 178) hx hb dL_ducks_103 (by decide) (fun _ => ?_) (fun c9 => absurd ((nI_leI (by omega) (by omega)).mpr (by omega)) c9)
          refine lv_iload_n hx hb dL_ducks_178 rfl (lv_at hl 2 rfl) ?_
          have ixn : ¬ inI (nI (nD V.σ)) (nI (nD V.σ)) = true := by simp [inI]
          have ixm : ¬ inI (-1) (nI (nD V.σ)) = true := by rw [inI_iff]; exact fun z => z.1 (by decide)
          refine lv_if_eq (tgt := 195) hx hb dL_ducks_179 (by decide) (fun c4 => ?_) (fun c4 => ?_)
          · refine lv_aload_n hx hb dL_ducks_195 rfl (lv_at hl 3 rfl) ?_
            refine lv_iload_n hx hb dL_ducks_196 rfl (lv_at hl 2 rfl) ?_
            refine lq_SW S9 hLF (q_byQuacks_x l G cy kS vS a V (nI (nD V.σ)) hl9 ho ixn) (bigSW 2 hts (big_at 28 5 rfl) (big_at 0 2 rfl) (big_at 28 7 rfl) (big_at 28 6 rfl) rfl rfl (by decide +kernel) ⟨Nat.le_of_ble_eq_true rfl, Nat.le_of_ble_eq_true rfl⟩) hP hD hS hA rfl hl.1 rfl (Nat.le_of_ble_eq_true rfl) (MC := 90) ⟨rfl, rfl⟩ (7) (by omega) (by omega) dL_ducks_197 (fun u H locs cells slots hc hs hP hD hS => ?_)
            refine lv_bipush (v := (-13)) hx hb dL_ducks_200 (by decide) ?_
            refine lv_icmp_ne (tgt := 259) hx hb dL_ducks_202 (by decide) (fun c9 => absurd (by decide) c9) (fun _ => ?_)
            refine lv_aload_n hx hb dL_ducks_205 rfl (lv_at hl 3 rfl) ?_
            refine lv_iload_n hx hb dL_ducks_206 rfl (lv_at hl 2 rfl) ?_
            refine lq_SW S9 hLF (q_observed_x l G cy kS vS a V (nI (nD V.σ)) hl9 ho ixn) (bigSW 2 hts (big_at 26 9 rfl) (big_at 0 2 rfl) (big_at 26 11 rfl) (big_at 26 10 rfl) rfl rfl (by decide +kernel) ⟨Nat.le_of_ble_eq_true rfl, Nat.le_of_ble_eq_true rfl⟩) hP hD hS hA rfl hl.1 rfl (Nat.le_of_ble_eq_true rfl) (MC := 90) ⟨rfl, rfl⟩ (6) (by omega) (by omega) dL_ducks_207 (fun u H locs cells slots hc hs hP hD hS => ?_)
            refine lv_bipush (v := (-11)) hx hb dL_ducks_210 (by decide) ?_
            refine lv_icmp_ne (tgt := 259) hx hb dL_ducks_212 (by decide) (fun c9 => absurd (by decide) c9) (fun _ => ?_)
            refine lv_aload_n hx hb dL_ducks_215 rfl (lv_at hl 3 rfl) ?_
            refine lv_iload_n hx hb dL_ducks_216 rfl (lv_at hl 2 rfl) ?_
            refine lq_SW S9 hLF (q_lower_x l G cy kS vS a V (nI (nD V.σ)) hl9 ho ixn) (bigSW 2 hts (big_at 26 21 rfl) (big_at 0 2 rfl) (big_at 26 23 rfl) (big_at 26 22 rfl) rfl rfl (by decide +kernel) ⟨Nat.le_of_ble_eq_true rfl, Nat.le_of_ble_eq_true rfl⟩) hP hD hS hA rfl hl.1 rfl (Nat.le_of_ble_eq_true rfl) (MC := 90) ⟨rfl, rfl⟩ (5) (by omega) (by omega) dL_ducks_217 (fun u H locs cells slots hc hs hP hD hS => ?_)
            refine lv_bipush (v := (-11)) hx hb dL_ducks_220 (by decide) ?_
            refine lv_icmp_ne (tgt := 259) hx hb dL_ducks_222 (by decide) (fun c9 => absurd (by decide) c9) (fun _ => ?_)
            refine lv_aload_n hx hb dL_ducks_225 rfl (lv_at hl 3 rfl) ?_
            refine lv_iconst (v := (-1)) hx hb dL_ducks_226 (by decide) ?_
            refine lq_SW S9 hLF (q_upper_x l G cy kS vS a V (-1) hl9 ho ixm) (bigSW 2 hts (big_at 27 5 rfl) (big_at 0 2 rfl) (big_at 27 7 rfl) (big_at 27 6 rfl) rfl rfl (by decide +kernel) ⟨Nat.le_of_ble_eq_true rfl, Nat.le_of_ble_eq_true rfl⟩) hP hD hS hA rfl hl.1 rfl (Nat.le_of_ble_eq_true rfl) (MC := 90) ⟨rfl, rfl⟩ (4) (by omega) (by omega) dL_ducks_227 (fun u H locs cells slots hc hs hP hD hS => ?_)
            refine lv_bipush (v := (-11)) hx hb dL_ducks_230 (by decide) ?_
            refine lv_icmp_ne (tgt := 259) hx hb dL_ducks_232 (by decide) (fun c9 => absurd (by decide) c9) (fun _ => ?_)
            refine lv_aload_n hx hb dL_ducks_235 rfl (lv_at hl 3 rfl) ?_
            refine lv_iload_n hx hb dL_ducks_236 rfl (lv_at hl 2 rfl) ?_
            refine lq_SW S9 hLF (q_isContent_x l G cy kS vS a V (nI (nD V.σ)) hl9 ho ixn) (bigSW 2 hts (big_at 27 13 rfl) (big_at 0 2 rfl) (big_at 27 15 rfl) (big_at 27 14 rfl) rfl rfl (by decide +kernel) ⟨Nat.le_of_ble_eq_true rfl, Nat.le_of_ble_eq_true rfl⟩) hP hD hS hA rfl hl.1 rfl (Nat.le_of_ble_eq_true rfl) (MC := 90) ⟨rfl, rfl⟩ (3) (by omega) (by omega) dL_ducks_237 (fun u H locs cells slots hc hs hP hD hS => ?_)
            refine lv_bipush (v := (-11)) hx hb dL_ducks_240 (by decide) ?_
            refine lv_icmp_ne (tgt := 259) hx hb dL_ducks_242 (by decide) (fun c9 => absurd (by decide) c9) (fun _ => ?_)
            refine lv_aload_n hx hb dL_ducks_245 rfl (lv_at hl 3 rfl) ?_
            refine lv_iload_n hx hb dL_ducks_246 rfl (lv_at hl 2 rfl) ?_
            refine lq_SW S9 hLF (q_quacks_x l G cy kS vS a V (nI (nD V.σ)) hl9 ho ixn) (bigSW 2 hts (big_at 27 21 rfl) (big_at 0 2 rfl) (big_at 27 23 rfl) (big_at 27 22 rfl) rfl rfl (by decide +kernel) ⟨Nat.le_of_ble_eq_true rfl, Nat.le_of_ble_eq_true rfl⟩) hP hD hS hA rfl hl.1 rfl (Nat.le_of_ble_eq_true rfl) (MC := 90) ⟨rfl, rfl⟩ (2) (by omega) (by omega) dL_ducks_247 (fun u H locs cells slots hc hs hP hD hS => ?_)
            refine lv_bipush (v := (-11)) hx hb dL_ducks_250 (by decide) ?_
            refine lv_icmp_ne (tgt := 259) hx hb dL_ducks_252 (by decide) (fun c9 => absurd (by decide) c9) (fun _ => ?_)
            refine lv_iconst (v := 1) hx hb dL_ducks_255 (by decide) ?_
            refine lv_goto (tgt := 260) hx hb dL_ducks_256 (by decide) ?_
            exact lx_zret hx hb hr hlocks (by rfl) ⟨rfl, rfl⟩ hP hS (by omega) (by omega) dL_ducks_260
          · have h0 : ¬ nD V.σ = 0 := fun z => c4 (by rw [z]; rfl)
            refine lv_aload_n hx hb dL_ducks_182 rfl (lv_at hl 3 rfl) ?_
            refine lq_V S9 hLF (d_contentShare l G cy kS vS a V ho h0) (bigV 0 hts (big_at 29 0 rfl) (big_at 0 6 rfl) (big_at 29 3 rfl) (big_at 29 1 rfl) (big_at 29 2 rfl) rfl rfl (by decide +kernel) ⟨Nat.le_of_ble_eq_true rfl, Nat.le_of_ble_eq_true rfl⟩) hP hD hS hA rfl hl.1 rfl (Nat.le_of_ble_eq_true rfl) (MC := 90) ⟨rfl, rfl⟩ (8) (by omega) (by omega) dL_ducks_183 (fun u H locs cells slots hc hs hP hD hS => ?_)
            refine lv_iload_n hx hb dL_ducks_186 rfl (lv_at hl 1 rfl) ?_
            refine lv_i2f hx hb dL_ducks_187 ?_
            refine lv_iload_n hx hb dL_ducks_188 rfl (lv_at hl 2 rfl) ?_
            refine lv_i2f hx hb dL_ducks_189 ?_
            refine lv_fdiv hx hb dL_ducks_190 (cs_ok ho h0).1 ?_
            refine lv_fcmp hx hb dL_ducks_191 ?_
            refine lv_if_ne (tgt := 259) hx hb dL_ducks_192 (by decide) (fun c9 => absurd (fcs_ok ho h0) c9) (fun _ => ?_)
            refine lv_aload_n hx hb dL_ducks_195 rfl (lv_at hl 3 rfl) ?_
            refine lv_iload_n hx hb dL_ducks_196 rfl (lv_at hl 2 rfl) ?_
            refine lq_SW S9 hLF (q_byQuacks_x l G cy kS vS a V (nI (nD V.σ)) hl9 ho ixn) (bigSW 2 hts (big_at 28 5 rfl) (big_at 0 2 rfl) (big_at 28 7 rfl) (big_at 28 6 rfl) rfl rfl (by decide +kernel) ⟨Nat.le_of_ble_eq_true rfl, Nat.le_of_ble_eq_true rfl⟩) hP hD hS hA rfl hl.1 rfl (Nat.le_of_ble_eq_true rfl) (MC := 90) ⟨rfl, rfl⟩ (7) (by omega) (by omega) dL_ducks_197 (fun u H locs cells slots hc hs hP hD hS => ?_)
            refine lv_bipush (v := (-13)) hx hb dL_ducks_200 (by decide) ?_
            refine lv_icmp_ne (tgt := 259) hx hb dL_ducks_202 (by decide) (fun c9 => absurd (by decide) c9) (fun _ => ?_)
            refine lv_aload_n hx hb dL_ducks_205 rfl (lv_at hl 3 rfl) ?_
            refine lv_iload_n hx hb dL_ducks_206 rfl (lv_at hl 2 rfl) ?_
            refine lq_SW S9 hLF (q_observed_x l G cy kS vS a V (nI (nD V.σ)) hl9 ho ixn) (bigSW 2 hts (big_at 26 9 rfl) (big_at 0 2 rfl) (big_at 26 11 rfl) (big_at 26 10 rfl) rfl rfl (by decide +kernel) ⟨Nat.le_of_ble_eq_true rfl, Nat.le_of_ble_eq_true rfl⟩) hP hD hS hA rfl hl.1 rfl (Nat.le_of_ble_eq_true rfl) (MC := 90) ⟨rfl, rfl⟩ (6) (by omega) (by omega) dL_ducks_207 (fun u H locs cells slots hc hs hP hD hS => ?_)
            refine lv_bipush (v := (-11)) hx hb dL_ducks_210 (by decide) ?_
            refine lv_icmp_ne (tgt := 259) hx hb dL_ducks_212 (by decide) (fun c9 => absurd (by decide) c9) (fun _ => ?_)
            refine lv_aload_n hx hb dL_ducks_215 rfl (lv_at hl 3 rfl) ?_
            refine lv_iload_n hx hb dL_ducks_216 rfl (lv_at hl 2 rfl) ?_
            refine lq_SW S9 hLF (q_lower_x l G cy kS vS a V (nI (nD V.σ)) hl9 ho ixn) (bigSW 2 hts (big_at 26 21 rfl) (big_at 0 2 rfl) (big_at 26 23 rfl) (big_at 26 22 rfl) rfl rfl (by decide +kernel) ⟨Nat.le_of_ble_eq_true rfl, Nat.le_of_ble_eq_true rfl⟩) hP hD hS hA rfl hl.1 rfl (Nat.le_of_ble_eq_true rfl) (MC := 90) ⟨rfl, rfl⟩ (5) (by omega) (by omega) dL_ducks_217 (fun u H locs cells slots hc hs hP hD hS => ?_)
            refine lv_bipush (v := (-11)) hx hb dL_ducks_220 (by decide) ?_
            refine lv_icmp_ne (tgt := 259) hx hb dL_ducks_222 (by decide) (fun c9 => absurd (by decide) c9) (fun _ => ?_)
            refine lv_aload_n hx hb dL_ducks_225 rfl (lv_at hl 3 rfl) ?_
            refine lv_iconst (v := (-1)) hx hb dL_ducks_226 (by decide) ?_
            refine lq_SW S9 hLF (q_upper_x l G cy kS vS a V (-1) hl9 ho ixm) (bigSW 2 hts (big_at 27 5 rfl) (big_at 0 2 rfl) (big_at 27 7 rfl) (big_at 27 6 rfl) rfl rfl (by decide +kernel) ⟨Nat.le_of_ble_eq_true rfl, Nat.le_of_ble_eq_true rfl⟩) hP hD hS hA rfl hl.1 rfl (Nat.le_of_ble_eq_true rfl) (MC := 90) ⟨rfl, rfl⟩ (4) (by omega) (by omega) dL_ducks_227 (fun u H locs cells slots hc hs hP hD hS => ?_)
            refine lv_bipush (v := (-11)) hx hb dL_ducks_230 (by decide) ?_
            refine lv_icmp_ne (tgt := 259) hx hb dL_ducks_232 (by decide) (fun c9 => absurd (by decide) c9) (fun _ => ?_)
            refine lv_aload_n hx hb dL_ducks_235 rfl (lv_at hl 3 rfl) ?_
            refine lv_iload_n hx hb dL_ducks_236 rfl (lv_at hl 2 rfl) ?_
            refine lq_SW S9 hLF (q_isContent_x l G cy kS vS a V (nI (nD V.σ)) hl9 ho ixn) (bigSW 2 hts (big_at 27 13 rfl) (big_at 0 2 rfl) (big_at 27 15 rfl) (big_at 27 14 rfl) rfl rfl (by decide +kernel) ⟨Nat.le_of_ble_eq_true rfl, Nat.le_of_ble_eq_true rfl⟩) hP hD hS hA rfl hl.1 rfl (Nat.le_of_ble_eq_true rfl) (MC := 90) ⟨rfl, rfl⟩ (3) (by omega) (by omega) dL_ducks_237 (fun u H locs cells slots hc hs hP hD hS => ?_)
            refine lv_bipush (v := (-11)) hx hb dL_ducks_240 (by decide) ?_
            refine lv_icmp_ne (tgt := 259) hx hb dL_ducks_242 (by decide) (fun c9 => absurd (by decide) c9) (fun _ => ?_)
            refine lv_aload_n hx hb dL_ducks_245 rfl (lv_at hl 3 rfl) ?_
            refine lv_iload_n hx hb dL_ducks_246 rfl (lv_at hl 2 rfl) ?_
            refine lq_SW S9 hLF (q_quacks_x l G cy kS vS a V (nI (nD V.σ)) hl9 ho ixn) (bigSW 2 hts (big_at 27 21 rfl) (big_at 0 2 rfl) (big_at 27 23 rfl) (big_at 27 22 rfl) rfl rfl (by decide +kernel) ⟨Nat.le_of_ble_eq_true rfl, Nat.le_of_ble_eq_true rfl⟩) hP hD hS hA rfl hl.1 rfl (Nat.le_of_ble_eq_true rfl) (MC := 90) ⟨rfl, rfl⟩ (2) (by omega) (by omega) dL_ducks_247 (fun u H locs cells slots hc hs hP hD hS => ?_)
            refine lv_bipush (v := (-11)) hx hb dL_ducks_250 (by decide) ?_
            refine lv_icmp_ne (tgt := 259) hx hb dL_ducks_252 (by decide) (fun c9 => absurd (by decide) c9) (fun _ => ?_)
            refine lv_iconst (v := 1) hx hb dL_ducks_255 (by decide) ?_
            refine lv_goto (tgt := 260) hx hb dL_ducks_256 (by decide) ?_
            exact lx_zret hx hb hr hlocks (by rfl) ⟨rfl, rfl⟩ hP hS (by omega) (by omega) dL_ducks_260
        | succ d ih =>
          intro k hk u H locs cells slots hc hs hP hD hS ls hl
          have hk9 : k < (nD V.σ - 1) := by omega
          refine lv_iload_n hx hb dL_ducks_101 rfl (lv_at hl 0 rfl) ?_
          refine lv_iload_n hx hb dL_ducks_102 rfl (lv_at hl 2 rfl) ?_
          refine lv_icmp_ge (tgt := 178) hx hb dL_ducks_103 (by decide) (fun c9 => absurd c9 (fun q => absurd ((nI_leI (by omega) (by omega)).mp q) (by omega))) (fun _ => ?_)
          refine lv_aload_n hx hb dL_ducks_106 rfl (lv_at hl 3 rfl) ?_
          refine lv_iload_n hx hb dL_ducks_107 rfl (lv_at hl 0 rfl) ?_
          refine lv_iconst (v := 1) hx hb dL_ducks_108 (by decide) ?_
          refine lv_isub hx hb dL_ducks_109 ?_
          obtain ⟨a9, b9, ha9, hb9, ea9, eb9, hr9⟩ := rank_next (r := rkD (plz (vB V.σ) (hB V.σ) (bD V.σ) (lD V.σ) (uD V.σ)) (qD V.σ)) (f := fun j => rkDN (plz (vB V.σ) (hB V.σ) (bD V.σ) (lD V.σ) (uD V.σ)) (qD V.σ) j (nD V.σ)) (N := nD V.σ) (i := k) (by omega) (fun b => rkDN_c (nD V.σ)) duck_ord (by omega)
          refine lv_t0 (show ((nI (k + 1)) - 1) = nI k from nI_pre9) ?_
          refine lq_SW S9 hLF (q_byQuacks l G cy kS vS a V k ho (by omega)) (bigSW 2 hts (big_at 28 5 rfl) (big_at 0 2 rfl) (big_at 28 7 rfl) (big_at 28 6 rfl) rfl rfl (by decide +kernel) ⟨Nat.le_of_ble_eq_true rfl, Nat.le_of_ble_eq_true rfl⟩) hP hD hS hA rfl hl.1 rfl (Nat.le_of_ble_eq_true rfl) (MC := 90) ⟨rfl, rfl⟩ (6 * d + 13) (by omega) (by omega) dL_ducks_110 (fun u H locs cells slots hc hs hP hD hS => ?_)
          refine lv_t0 (show (atF (fun j => rkDN (plz (vB V.σ) (hB V.σ) (bD V.σ) (lD V.σ) (uD V.σ)) (qD V.σ) j (nD V.σ)) (nI k) 0 (nD V.σ)) = nI a9 from ea9) ?_
          refine lv_istore (lv' := [(4, .int (nI a9)), (3, .int (nI (k + 1))), (2, .int (cntP (plS V.σ) (nD V.σ))), (1, .int (nI (nD V.σ))), (0, .ref a.aX)]) hx hb dL_ducks_113 hl (by decide) rfl (fun ls hl => ?_)
          refine lv_aload_n hx hb dL_ducks_115 rfl (lv_at hl 4 rfl) ?_
          refine lv_iload_n hx hb dL_ducks_116 rfl (lv_at hl 1 rfl) ?_
          refine lq_SW S9 hLF (q_byQuacks l G cy kS vS a V (k + 1) ho (by omega)) (bigSW 2 hts (big_at 28 5 rfl) (big_at 0 2 rfl) (big_at 28 7 rfl) (big_at 28 6 rfl) rfl rfl (by decide +kernel) ⟨Nat.le_of_ble_eq_true rfl, Nat.le_of_ble_eq_true rfl⟩) hP hD hS hA rfl hl.1 rfl (Nat.le_of_ble_eq_true rfl) (MC := 90) ⟨rfl, rfl⟩ (6 * d + 12) (by omega) (by omega) dL_ducks_117 (fun u H locs cells slots hc hs hP hD hS => ?_)
          refine lv_t0 (show (atF (fun j => rkDN (plz (vB V.σ) (hB V.σ) (bD V.σ) (lD V.σ) (uD V.σ)) (qD V.σ) j (nD V.σ)) (nI (k + 1)) 0 (nD V.σ)) = nI b9 from eb9) ?_
          refine lv_istore (lv' := [(5, .int (nI b9)), (4, .int (nI a9)), (3, .int (nI (k + 1))), (2, .int (cntP (plS V.σ) (nD V.σ))), (1, .int (nI (nD V.σ))), (0, .ref a.aX)]) hx hb dL_ducks_120 hl (by decide) rfl (fun ls hl => ?_)
          refine lv_iconst (v := 2) hx hb dL_ducks_122 (by decide) ?_
          refine lv_aload_n hx hb dL_ducks_123 rfl (lv_at hl 5 rfl) ?_
          refine lv_iload hx hb dL_ducks_124 (lv_at hl 1 rfl) ?_
          refine lq_SW S9 hLF (q_quacks l G cy kS vS a V a9 ho ha9) (bigSW 2 hts (big_at 27 21 rfl) (big_at 0 2 rfl) (big_at 27 23 rfl) (big_at 27 22 rfl) rfl rfl (by decide +kernel) ⟨Nat.le_of_ble_eq_true rfl, Nat.le_of_ble_eq_true rfl⟩) hP hD hS hA rfl hl.1 rfl (Nat.le_of_ble_eq_true rfl) (MC := 90) ⟨rfl, rfl⟩ (6 * d + 11) (by omega) (by omega) dL_ducks_126 (fun u H locs cells slots hc hs hP hD hS => ?_)
          refine lv_aload_n hx hb dL_ducks_129 rfl (lv_at hl 5 rfl) ?_
          refine lv_iload hx hb dL_ducks_130 (lv_at hl 0 rfl) ?_
          refine lq_SW S9 hLF (q_quacks l G cy kS vS a V b9 ho hb9) (bigSW 2 hts (big_at 27 21 rfl) (big_at 0 2 rfl) (big_at 27 23 rfl) (big_at 27 22 rfl) rfl rfl (by decide +kernel) ⟨Nat.le_of_ble_eq_true rfl, Nat.le_of_ble_eq_true rfl⟩) hP hD hS hA rfl hl.1 rfl (Nat.le_of_ble_eq_true rfl) (MC := 90) ⟨rfl, rfl⟩ (6 * d + 10) (by omega) (by omega) dL_ducks_132 (fun u H locs cells slots hc hs hP hD hS => ?_)
          refine lv_isub hx hb dL_ducks_135 ?_
          refine lv_imul hx hb dL_ducks_136 ?_
          refine lv_aload_n hx hb dL_ducks_137 rfl (lv_at hl 5 rfl) ?_
          refine lv_iload hx hb dL_ducks_138 (lv_at hl 1 rfl) ?_
          refine lq_SW S9 hLF (q_isContent l G cy kS vS a V a9 ho ha9) (bigSW 2 hts (big_at 27 13 rfl) (big_at 0 2 rfl) (big_at 27 15 rfl) (big_at 27 14 rfl) rfl rfl (by decide +kernel) ⟨Nat.le_of_ble_eq_true rfl, Nat.le_of_ble_eq_true rfl⟩) hP hD hS hA rfl hl.1 rfl (Nat.le_of_ble_eq_true rfl) (MC := 90) ⟨rfl, rfl⟩ (6 * d + 9) (by omega) (by omega) dL_ducks_140 (fun u H locs cells slots hc hs hP hD hS => ?_)
          refine lv_iadd hx hb dL_ducks_143 ?_
          refine lv_aload_n hx hb dL_ducks_144 rfl (lv_at hl 5 rfl) ?_
          refine lv_iload hx hb dL_ducks_145 (lv_at hl 0 rfl) ?_
          refine lq_SW S9 hLF (q_isContent l G cy kS vS a V b9 ho hb9) (bigSW 2 hts (big_at 27 13 rfl) (big_at 0 2 rfl) (big_at 27 15 rfl) (big_at 27 14 rfl) rfl rfl (by decide +kernel) ⟨Nat.le_of_ble_eq_true rfl, Nat.le_of_ble_eq_true rfl⟩) hP hD hS hA rfl hl.1 rfl (Nat.le_of_ble_eq_true rfl) (MC := 90) ⟨rfl, rfl⟩ (6 * d + 8) (by omega) (by omega) dL_ducks_147 (fun u H locs cells slots hc hs hP hD hS => ?_)
          refine lv_isub hx hb dL_ducks_150 ?_
          refine lv_istore (lv' := [(6, .int (((2 * ((qD V.σ a9) - (qD V.σ b9))) + (bz (if plS V.σ a9 = true then 1 else 0))) - (bz (if plS V.σ b9 = true then 1 else 0)))), (5, .int (nI b9)), (4, .int (nI a9)), (3, .int (nI (k + 1))), (2, .int (cntP (plS V.σ) (nD V.σ))), (1, .int (nI (nD V.σ))), (0, .ref a.aX)]) hx hb dL_ducks_151 hl (by decide) rfl (fun ls hl => ?_)
          refine lv_iload hx hb dL_ducks_153 (lv_at hl 0 rfl) ?_
          obtain ⟨y1, y2⟩ := duck_by (n := n0) hr9 ⟨(hI.2.2.2.1 a9 (by omega)).1, (hI.2.2.2.1 a9 (by omega)).2.1⟩ ⟨(hI.2.2.2.1 b9 (by omega)).1, (hI.2.2.2.1 b9 (by omega)).2.1⟩ (by omega)
          refine lv_if_lt (tgt := 170) hx hb dL_ducks_155 (by decide) (fun c9 => absurd c9 y1) (fun _ => ?_)
          refine lv_iload hx hb dL_ducks_158 (lv_at hl 0 rfl) ?_
          refine lv_if_ne (tgt := 172) hx hb dL_ducks_160 (by decide) (fun c3 => ?_) (fun c3 => ?_)
          · refine lv_iinc (v := nI ((k + 1) + 1)) (lv' := [(3, .int (nI ((k + 1) + 1))), (6, .int (((2 * ((qD V.σ a9) - (qD V.σ b9))) + (bz (if plS V.σ a9 = true then 1 else 0))) - (bz (if plS V.σ b9 = true then 1 else 0)))), (5, .int (nI b9)), (4, .int (nI a9)), (2, .int (cntP (plS V.σ) (nD V.σ))), (1, .int (nI (nD V.σ))), (0, .ref a.aX)]) hx hb dL_ducks_172 hl (k := 3) rfl (m_inc _) (by decide) rfl (fun ls hl => ?_)
            refine lv_goto (tgt := 101) hx hb dL_ducks_175 (by decide) ?_
            exact ih (k + 1) (by omega) _ _ _ _ _ (by omega) (by omega) hP hD hS ls (lv_sub hl [0, 4, 5, 6] rfl)
          · refine lv_iload hx hb dL_ducks_163 (lv_at hl 2 rfl) ?_
            refine lv_iload hx hb dL_ducks_165 (lv_at hl 1 rfl) ?_
            have y3 := y2 c3
            refine lv_icmp_le (tgt := 172) hx hb dL_ducks_167 (by decide) (fun _ => ?_) (fun c9 => absurd ((nI_leI (by omega) (by omega)).mpr (by omega)) c9)
            refine lv_iinc (v := nI ((k + 1) + 1)) (lv' := [(3, .int (nI ((k + 1) + 1))), (6, .int (((2 * ((qD V.σ a9) - (qD V.σ b9))) + (bz (if plS V.σ a9 = true then 1 else 0))) - (bz (if plS V.σ b9 = true then 1 else 0)))), (5, .int (nI b9)), (4, .int (nI a9)), (2, .int (cntP (plS V.σ) (nD V.σ))), (1, .int (nI (nD V.σ))), (0, .ref a.aX)]) hx hb dL_ducks_172 hl (k := 3) rfl (m_inc _) (by decide) rfl (fun ls hl => ?_)
            refine lv_goto (tgt := 101) hx hb dL_ducks_175 (by decide) ?_
            exact ih (k + 1) (by omega) _ _ _ _ _ (by omega) (by omega) hP hD hS ls (lv_sub hl [0, 4, 5, 6] rfl)
      have e101_3 : nI (0 + 1) = 1 := rfl
      exact L101 ((nD V.σ - 1)) 0 (by omega) _ _ _ _ _ (by omega) (by omega) hP hD hS ls (by rw [e101_3]; exact lv_sub hl [0, 1, 2, 3] rfl)
    | succ d ih =>
      intro k hk u H locs cells slots hc hs hP hD hS ls hl
      have hk9 : k < nD V.σ := by omega
      refine lv_iload_n hx hb dL_ducks_9 rfl (lv_at hl 0 rfl) ?_
      refine lv_iload_n hx hb dL_ducks_10 rfl (lv_at hl 2 rfl) ?_
      refine lv_icmp_ge (tgt := 99) hx hb dL_ducks_11 (by decide) (fun c9 => absurd c9 (fun q => absurd ((nI_leI (by omega) (by omega)).mp q) (by omega))) (fun _ => ?_)
      refine lv_aload_n hx hb dL_ducks_14 rfl (lv_at hl 3 rfl) ?_
      refine lv_aload_n hx hb dL_ducks_15 rfl (lv_at hl 3 rfl) ?_
      refine lv_iload_n hx hb dL_ducks_16 rfl (lv_at hl 0 rfl) ?_
      refine lq_SW S9 hLF (q_observed l G cy kS vS a V k ho hk9) (bigSW 2 hts (big_at 26 9 rfl) (big_at 0 2 rfl) (big_at 26 11 rfl) (big_at 26 10 rfl) rfl rfl (by decide +kernel) ⟨Nat.le_of_ble_eq_true rfl, Nat.le_of_ble_eq_true rfl⟩) hP hD hS hA rfl hl.1 rfl (Nat.le_of_ble_eq_true rfl) (MC := 90) ⟨rfl, rfl⟩ (6 * d + 55) (by omega) (by omega) dL_ducks_17 (fun u H locs cells slots hc hs hP hD hS => ?_)
      obtain ⟨hb7, hlo⟩ := hE.1 k hk9
      obtain ⟨eb, hbx⟩ := m_ixp (by omega) hb7
      refine lv_t0 (show (bD V.σ k) = nI (bx (bD V.σ k)) from eb) ?_
      by_cases w9 : wet (vB V.σ) (bx (bD V.σ k)) = true
      · refine lq_SW S9 hLF (q_temperature l G cy kS vS a V (bx (bD V.σ k)) ho hbx w9) (bigSW 2 hts (big_at 17 16 rfl) (big_at 0 2 rfl) (big_at 17 18 rfl) (big_at 17 17 rfl) rfl rfl (by decide +kernel) ⟨Nat.le_of_ble_eq_true rfl, Nat.le_of_ble_eq_true rfl⟩) hP hD hS hA rfl hl.1 rfl (Nat.le_of_ble_eq_true rfl) (MC := 90) ⟨rfl, rfl⟩ (6 * d + 54) (by omega) (by omega) dL_ducks_20 (fun u H locs cells slots hc hs hP hD hS => ?_)
        refine lv_istore (lv' := [(4, .int (rdeg (hB V.σ (bx (bD V.σ k))) (vB V.σ (bx (bD V.σ k))))), (3, .int (nI k)), (2, .int (cntP (plS V.σ) k)), (1, .int (nI (nD V.σ))), (0, .ref a.aX)]) hx hb dL_ducks_23 hl (by decide) rfl (fun ls hl => ?_)
        refine lv_iload hx hb dL_ducks_25 (lv_at hl 0 rfl) ?_
        refine lv_aload_n hx hb dL_ducks_27 rfl (lv_at hl 4 rfl) ?_
        refine lv_iload_n hx hb dL_ducks_28 rfl (lv_at hl 1 rfl) ?_
        refine lq_SW S9 hLF (q_lower l G cy kS vS a V k ho hk9) (bigSW 2 hts (big_at 26 21 rfl) (big_at 0 2 rfl) (big_at 26 23 rfl) (big_at 26 22 rfl) rfl rfl (by decide +kernel) ⟨Nat.le_of_ble_eq_true rfl, Nat.le_of_ble_eq_true rfl⟩) hP hD hS hA rfl hl.1 rfl (Nat.le_of_ble_eq_true rfl) (MC := 90) ⟨rfl, rfl⟩ (6 * d + 53) (by omega) (by omega) dL_ducks_29 (fun u H locs cells slots hc hs hP hD hS => ?_)
        refine lv_icmp_lt (tgt := 49) hx hb dL_ducks_32 (by decide) (fun c1 => ?_) (fun c1 => ?_)
        · refine lv_iconst (v := 0) hx hb dL_ducks_49 (by decide) ?_
          have p9 : ¬ plS V.σ k = true := by unfold plS plz; rw [w9, decide_eq_false (not_not_intro c1)]; simp
          refine lv_istore (lv' := [(5, .int 0), (4, .int (rdeg (hB V.σ (bx (bD V.σ k))) (vB V.σ (bx (bD V.σ k))))), (3, .int (nI k)), (2, .int (cntP (plS V.σ) k)), (1, .int (nI (nD V.σ))), (0, .ref a.aX)]) hx hb dL_ducks_50 hl (by decide) rfl (fun ls hl => ?_)
          refine lv_iload_n hx hb dL_ducks_52 rfl (lv_at hl 3 rfl) ?_
          refine lv_iload hx hb dL_ducks_53 (lv_at hl 0 rfl) ?_
          refine lv_if_eq (tgt := 62) hx hb dL_ducks_55 (by decide) (fun _ => ?_) (fun c9 => absurd (by decide) c9)
          refine lv_iconst (v := 0) hx hb dL_ducks_62 (by decide) ?_
          refine lv_iadd hx hb dL_ducks_63 ?_
          refine lv_istore_n (lv' := [(2, .int ((cntP (plS V.σ) k) + 0)), (5, .int 0), (4, .int (rdeg (hB V.σ (bx (bD V.σ k))) (vB V.σ (bx (bD V.σ k))))), (3, .int (nI k)), (1, .int (nI (nD V.σ))), (0, .ref a.aX)]) hx hb dL_ducks_64 rfl hl (by decide) rfl (fun ls hl => ?_)
          refine lv_aload_n hx hb dL_ducks_65 rfl (lv_at hl 5 rfl) ?_
          refine lv_iload_n hx hb dL_ducks_66 rfl (lv_at hl 3 rfl) ?_
          refine lq_SW S9 hLF (q_isContent l G cy kS vS a V k ho hk9) (bigSW 2 hts (big_at 27 13 rfl) (big_at 0 2 rfl) (big_at 27 15 rfl) (big_at 27 14 rfl) rfl rfl (by decide +kernel) ⟨Nat.le_of_ble_eq_true rfl, Nat.le_of_ble_eq_true rfl⟩) hP hD hS hA rfl hl.1 rfl (Nat.le_of_ble_eq_true rfl) (MC := 90) ⟨rfl, rfl⟩ (6 * d + 52) (by omega) (by omega) dL_ducks_67 (fun u H locs cells slots hc hs hP hD hS => ?_)
          refine lv_t0 (show (bz (if plS V.σ k = true then 1 else 0)) = 0 from by rw [if_neg p9]; rfl) ?_
          refine lv_iload hx hb dL_ducks_70 (lv_at hl 1 rfl) ?_
          refine lv_if_eq (tgt := 79) hx hb dL_ducks_72 (by decide) (fun _ => ?_) (fun c9 => absurd (by decide) c9)
          refine lv_iconst (v := 0) hx hb dL_ducks_79 (by decide) ?_
          refine lv_icmp_ne (tgt := 91) hx hb dL_ducks_80 (by decide) (fun c9 => absurd (by decide) c9) (fun _ => ?_)
          refine lv_aload_n hx hb dL_ducks_83 rfl (lv_at hl 5 rfl) ?_
          refine lv_iload_n hx hb dL_ducks_84 rfl (lv_at hl 3 rfl) ?_
          refine lq_SW S9 hLF (q_quacks l G cy kS vS a V k ho hk9) (bigSW 2 hts (big_at 27 21 rfl) (big_at 0 2 rfl) (big_at 27 23 rfl) (big_at 27 22 rfl) rfl rfl (by decide +kernel) ⟨Nat.le_of_ble_eq_true rfl, Nat.le_of_ble_eq_true rfl⟩) hP hD hS hA rfl hl.1 rfl (Nat.le_of_ble_eq_true rfl) (MC := 90) ⟨rfl, rfl⟩ (6 * d + 51) (by omega) (by omega) dL_ducks_85 (fun u H locs cells slots hc hs hP hD hS => ?_)
          refine lv_if_ge (tgt := 93) hx hb dL_ducks_88 (by decide) (fun _ => ?_) (fun c9 => absurd (ge0_32 (hI.2.2.2.1 k (by omega)).1) c9)
          refine lv_iinc (v := nI (k + 1)) (lv' := [(3, .int (nI (k + 1))), (2, .int ((cntP (plS V.σ) k) + 0)), (5, .int 0), (4, .int (rdeg (hB V.σ (bx (bD V.σ k))) (vB V.σ (bx (bD V.σ k))))), (1, .int (nI (nD V.σ))), (0, .ref a.aX)]) hx hb dL_ducks_93 hl (k := 3) rfl (m_inc _) (by decide) rfl (fun ls hl => ?_)
          refine lv_goto (tgt := 9) hx hb dL_ducks_96 (by decide) ?_
          have e9_2 : cntP (plS V.σ) (k + 1) = (cntP (plS V.σ) k) + 0 := (by rw [Int32.add_zero]; simp only [cntP]; rw [if_neg p9])
          exact ih (k + 1) (by omega) _ _ _ _ _ (by omega) (by omega) hP hD hS ls (by rw [e9_2]; exact lv_sub hl [0, 1, 4, 5] rfl)
        · refine lv_iload hx hb dL_ducks_35 (lv_at hl 0 rfl) ?_
          refine lv_aload_n hx hb dL_ducks_37 rfl (lv_at hl 4 rfl) ?_
          refine lv_iload_n hx hb dL_ducks_38 rfl (lv_at hl 1 rfl) ?_
          refine lq_SW S9 hLF (q_upper l G cy kS vS a V k ho hk9) (bigSW 2 hts (big_at 27 5 rfl) (big_at 0 2 rfl) (big_at 27 7 rfl) (big_at 27 6 rfl) rfl rfl (by decide +kernel) ⟨Nat.le_of_ble_eq_true rfl, Nat.le_of_ble_eq_true rfl⟩) hP hD hS hA rfl hl.1 rfl (Nat.le_of_ble_eq_true rfl) (MC := 90) ⟨rfl, rfl⟩ (6 * d + 52) (by omega) (by omega) dL_ducks_39 (fun u H locs cells slots hc hs hP hD hS => ?_)
          refine lv_icmp_gt (tgt := 49) hx hb dL_ducks_42 (by decide) (fun c2 => ?_) (fun c2 => ?_)
          · refine lv_iconst (v := 0) hx hb dL_ducks_49 (by decide) ?_
            have p9 : ¬ plS V.σ k = true := by unfold plS plz; rw [w9, decide_eq_true c1, decide_eq_false (not_not_intro c2)]; simp
            refine lv_istore (lv' := [(5, .int 0), (4, .int (rdeg (hB V.σ (bx (bD V.σ k))) (vB V.σ (bx (bD V.σ k))))), (3, .int (nI k)), (2, .int (cntP (plS V.σ) k)), (1, .int (nI (nD V.σ))), (0, .ref a.aX)]) hx hb dL_ducks_50 hl (by decide) rfl (fun ls hl => ?_)
            refine lv_iload_n hx hb dL_ducks_52 rfl (lv_at hl 3 rfl) ?_
            refine lv_iload hx hb dL_ducks_53 (lv_at hl 0 rfl) ?_
            refine lv_if_eq (tgt := 62) hx hb dL_ducks_55 (by decide) (fun _ => ?_) (fun c9 => absurd (by decide) c9)
            refine lv_iconst (v := 0) hx hb dL_ducks_62 (by decide) ?_
            refine lv_iadd hx hb dL_ducks_63 ?_
            refine lv_istore_n (lv' := [(2, .int ((cntP (plS V.σ) k) + 0)), (5, .int 0), (4, .int (rdeg (hB V.σ (bx (bD V.σ k))) (vB V.σ (bx (bD V.σ k))))), (3, .int (nI k)), (1, .int (nI (nD V.σ))), (0, .ref a.aX)]) hx hb dL_ducks_64 rfl hl (by decide) rfl (fun ls hl => ?_)
            refine lv_aload_n hx hb dL_ducks_65 rfl (lv_at hl 5 rfl) ?_
            refine lv_iload_n hx hb dL_ducks_66 rfl (lv_at hl 3 rfl) ?_
            refine lq_SW S9 hLF (q_isContent l G cy kS vS a V k ho hk9) (bigSW 2 hts (big_at 27 13 rfl) (big_at 0 2 rfl) (big_at 27 15 rfl) (big_at 27 14 rfl) rfl rfl (by decide +kernel) ⟨Nat.le_of_ble_eq_true rfl, Nat.le_of_ble_eq_true rfl⟩) hP hD hS hA rfl hl.1 rfl (Nat.le_of_ble_eq_true rfl) (MC := 90) ⟨rfl, rfl⟩ (6 * d + 51) (by omega) (by omega) dL_ducks_67 (fun u H locs cells slots hc hs hP hD hS => ?_)
            refine lv_t0 (show (bz (if plS V.σ k = true then 1 else 0)) = 0 from by rw [if_neg p9]; rfl) ?_
            refine lv_iload hx hb dL_ducks_70 (lv_at hl 1 rfl) ?_
            refine lv_if_eq (tgt := 79) hx hb dL_ducks_72 (by decide) (fun _ => ?_) (fun c9 => absurd (by decide) c9)
            refine lv_iconst (v := 0) hx hb dL_ducks_79 (by decide) ?_
            refine lv_icmp_ne (tgt := 91) hx hb dL_ducks_80 (by decide) (fun c9 => absurd (by decide) c9) (fun _ => ?_)
            refine lv_aload_n hx hb dL_ducks_83 rfl (lv_at hl 5 rfl) ?_
            refine lv_iload_n hx hb dL_ducks_84 rfl (lv_at hl 3 rfl) ?_
            refine lq_SW S9 hLF (q_quacks l G cy kS vS a V k ho hk9) (bigSW 2 hts (big_at 27 21 rfl) (big_at 0 2 rfl) (big_at 27 23 rfl) (big_at 27 22 rfl) rfl rfl (by decide +kernel) ⟨Nat.le_of_ble_eq_true rfl, Nat.le_of_ble_eq_true rfl⟩) hP hD hS hA rfl hl.1 rfl (Nat.le_of_ble_eq_true rfl) (MC := 90) ⟨rfl, rfl⟩ (6 * d + 50) (by omega) (by omega) dL_ducks_85 (fun u H locs cells slots hc hs hP hD hS => ?_)
            refine lv_if_ge (tgt := 93) hx hb dL_ducks_88 (by decide) (fun _ => ?_) (fun c9 => absurd (ge0_32 (hI.2.2.2.1 k (by omega)).1) c9)
            refine lv_iinc (v := nI (k + 1)) (lv' := [(3, .int (nI (k + 1))), (2, .int ((cntP (plS V.σ) k) + 0)), (5, .int 0), (4, .int (rdeg (hB V.σ (bx (bD V.σ k))) (vB V.σ (bx (bD V.σ k))))), (1, .int (nI (nD V.σ))), (0, .ref a.aX)]) hx hb dL_ducks_93 hl (k := 3) rfl (m_inc _) (by decide) rfl (fun ls hl => ?_)
            refine lv_goto (tgt := 9) hx hb dL_ducks_96 (by decide) ?_
            have e9_2 : cntP (plS V.σ) (k + 1) = (cntP (plS V.σ) k) + 0 := (by rw [Int32.add_zero]; simp only [cntP]; rw [if_neg p9])
            exact ih (k + 1) (by omega) _ _ _ _ _ (by omega) (by omega) hP hD hS ls (by rw [e9_2]; exact lv_sub hl [0, 1, 4, 5] rfl)
          · refine lv_iconst (v := 1) hx hb dL_ducks_45 (by decide) ?_
            refine lv_goto (tgt := 50) hx hb dL_ducks_46 (by decide) ?_
            have p9 : plS V.σ k = true := by unfold plS plz; rw [w9, decide_eq_true c1, decide_eq_true c2]; rfl
            refine lv_istore (lv' := [(5, .int 1), (4, .int (rdeg (hB V.σ (bx (bD V.σ k))) (vB V.σ (bx (bD V.σ k))))), (3, .int (nI k)), (2, .int (cntP (plS V.σ) k)), (1, .int (nI (nD V.σ))), (0, .ref a.aX)]) hx hb dL_ducks_50 hl (by decide) rfl (fun ls hl => ?_)
            refine lv_iload_n hx hb dL_ducks_52 rfl (lv_at hl 3 rfl) ?_
            refine lv_iload hx hb dL_ducks_53 (lv_at hl 0 rfl) ?_
            refine lv_if_eq (tgt := 62) hx hb dL_ducks_55 (by decide) (fun c9 => absurd c9 (by decide)) (fun _ => ?_)
            refine lv_iconst (v := 1) hx hb dL_ducks_58 (by decide) ?_
            refine lv_goto (tgt := 63) hx hb dL_ducks_59 (by decide) ?_
            refine lv_iadd hx hb dL_ducks_63 ?_
            refine lv_istore_n (lv' := [(2, .int ((cntP (plS V.σ) k) + 1)), (5, .int 1), (4, .int (rdeg (hB V.σ (bx (bD V.σ k))) (vB V.σ (bx (bD V.σ k))))), (3, .int (nI k)), (1, .int (nI (nD V.σ))), (0, .ref a.aX)]) hx hb dL_ducks_64 rfl hl (by decide) rfl (fun ls hl => ?_)
            refine lv_aload_n hx hb dL_ducks_65 rfl (lv_at hl 5 rfl) ?_
            refine lv_iload_n hx hb dL_ducks_66 rfl (lv_at hl 3 rfl) ?_
            refine lq_SW S9 hLF (q_isContent l G cy kS vS a V k ho hk9) (bigSW 2 hts (big_at 27 13 rfl) (big_at 0 2 rfl) (big_at 27 15 rfl) (big_at 27 14 rfl) rfl rfl (by decide +kernel) ⟨Nat.le_of_ble_eq_true rfl, Nat.le_of_ble_eq_true rfl⟩) hP hD hS hA rfl hl.1 rfl (Nat.le_of_ble_eq_true rfl) (MC := 90) ⟨rfl, rfl⟩ (6 * d + 51) (by omega) (by omega) dL_ducks_67 (fun u H locs cells slots hc hs hP hD hS => ?_)
            refine lv_t0 (show (bz (if plS V.σ k = true then 1 else 0)) = 1 from by rw [if_pos p9]; rfl) ?_
            refine lv_iload hx hb dL_ducks_70 (lv_at hl 1 rfl) ?_
            refine lv_if_eq (tgt := 79) hx hb dL_ducks_72 (by decide) (fun c9 => absurd c9 (by decide)) (fun _ => ?_)
            refine lv_iconst (v := 1) hx hb dL_ducks_75 (by decide) ?_
            refine lv_goto (tgt := 80) hx hb dL_ducks_76 (by decide) ?_
            refine lv_icmp_ne (tgt := 91) hx hb dL_ducks_80 (by decide) (fun c9 => absurd (by decide) c9) (fun _ => ?_)
            refine lv_aload_n hx hb dL_ducks_83 rfl (lv_at hl 5 rfl) ?_
            refine lv_iload_n hx hb dL_ducks_84 rfl (lv_at hl 3 rfl) ?_
            refine lq_SW S9 hLF (q_quacks l G cy kS vS a V k ho hk9) (bigSW 2 hts (big_at 27 21 rfl) (big_at 0 2 rfl) (big_at 27 23 rfl) (big_at 27 22 rfl) rfl rfl (by decide +kernel) ⟨Nat.le_of_ble_eq_true rfl, Nat.le_of_ble_eq_true rfl⟩) hP hD hS hA rfl hl.1 rfl (Nat.le_of_ble_eq_true rfl) (MC := 90) ⟨rfl, rfl⟩ (6 * d + 50) (by omega) (by omega) dL_ducks_85 (fun u H locs cells slots hc hs hP hD hS => ?_)
            refine lv_if_ge (tgt := 93) hx hb dL_ducks_88 (by decide) (fun _ => ?_) (fun c9 => absurd (ge0_32 (hI.2.2.2.1 k (by omega)).1) c9)
            refine lv_iinc (v := nI (k + 1)) (lv' := [(3, .int (nI (k + 1))), (2, .int ((cntP (plS V.σ) k) + 1)), (5, .int 1), (4, .int (rdeg (hB V.σ (bx (bD V.σ k))) (vB V.σ (bx (bD V.σ k))))), (1, .int (nI (nD V.σ))), (0, .ref a.aX)]) hx hb dL_ducks_93 hl (k := 3) rfl (m_inc _) (by decide) rfl (fun ls hl => ?_)
            refine lv_goto (tgt := 9) hx hb dL_ducks_96 (by decide) ?_
            have e9_2 : cntP (plS V.σ) (k + 1) = (cntP (plS V.σ) k) + 1 := (by simp only [cntP]; rw [if_pos p9])
            exact ih (k + 1) (by omega) _ _ _ _ _ (by omega) (by omega) hP hD hS ls (by rw [e9_2]; exact lv_sub hl [0, 1, 4, 5] rfl)
      · refine lq_SW S9 hLF (q_temperature_2 l G cy kS vS a V (bx (bD V.σ k)) hl9 ho hbx w9) (bigSW 2 hts (big_at 17 16 rfl) (big_at 0 2 rfl) (big_at 17 18 rfl) (big_at 17 17 rfl) rfl rfl (by decide +kernel) ⟨Nat.le_of_ble_eq_true rfl, Nat.le_of_ble_eq_true rfl⟩) hP hD hS hA rfl hl.1 rfl (Nat.le_of_ble_eq_true rfl) (MC := 90) ⟨rfl, rfl⟩ (6 * d + 54) (by omega) (by omega) dL_ducks_20 (fun u H locs cells slots hc hs hP hD hS => ?_)
        refine lv_istore (lv' := [(4, .int (-13)), (3, .int (nI k)), (2, .int (cntP (plS V.σ) k)), (1, .int (nI (nD V.σ))), (0, .ref a.aX)]) hx hb dL_ducks_23 hl (by decide) rfl (fun ls hl => ?_)
        refine lv_iload hx hb dL_ducks_25 (lv_at hl 0 rfl) ?_
        refine lv_aload_n hx hb dL_ducks_27 rfl (lv_at hl 4 rfl) ?_
        refine lv_iload_n hx hb dL_ducks_28 rfl (lv_at hl 1 rfl) ?_
        refine lq_SW S9 hLF (q_lower l G cy kS vS a V k ho hk9) (bigSW 2 hts (big_at 26 21 rfl) (big_at 0 2 rfl) (big_at 26 23 rfl) (big_at 26 22 rfl) rfl rfl (by decide +kernel) ⟨Nat.le_of_ble_eq_true rfl, Nat.le_of_ble_eq_true rfl⟩) hP hD hS hA rfl hl.1 rfl (Nat.le_of_ble_eq_true rfl) (MC := 90) ⟨rfl, rfl⟩ (6 * d + 53) (by omega) (by omega) dL_ducks_29 (fun u H locs cells slots hc hs hP hD hS => ?_)
        refine lv_icmp_lt (tgt := 49) hx hb dL_ducks_32 (by decide) (fun _ => ?_) (fun c9 => absurd (neg13 hlo) c9)
        refine lv_iconst (v := 0) hx hb dL_ducks_49 (by decide) ?_
        have p9 : ¬ plS V.σ k = true := by unfold plS plz; rw [Bool.eq_false_iff.mpr w9]; simp
        refine lv_istore (lv' := [(5, .int 0), (4, .int (-13)), (3, .int (nI k)), (2, .int (cntP (plS V.σ) k)), (1, .int (nI (nD V.σ))), (0, .ref a.aX)]) hx hb dL_ducks_50 hl (by decide) rfl (fun ls hl => ?_)
        refine lv_iload_n hx hb dL_ducks_52 rfl (lv_at hl 3 rfl) ?_
        refine lv_iload hx hb dL_ducks_53 (lv_at hl 0 rfl) ?_
        refine lv_if_eq (tgt := 62) hx hb dL_ducks_55 (by decide) (fun _ => ?_) (fun c9 => absurd (by decide) c9)
        refine lv_iconst (v := 0) hx hb dL_ducks_62 (by decide) ?_
        refine lv_iadd hx hb dL_ducks_63 ?_
        refine lv_istore_n (lv' := [(2, .int ((cntP (plS V.σ) k) + 0)), (5, .int 0), (4, .int (-13)), (3, .int (nI k)), (1, .int (nI (nD V.σ))), (0, .ref a.aX)]) hx hb dL_ducks_64 rfl hl (by decide) rfl (fun ls hl => ?_)
        refine lv_aload_n hx hb dL_ducks_65 rfl (lv_at hl 5 rfl) ?_
        refine lv_iload_n hx hb dL_ducks_66 rfl (lv_at hl 3 rfl) ?_
        refine lq_SW S9 hLF (q_isContent l G cy kS vS a V k ho hk9) (bigSW 2 hts (big_at 27 13 rfl) (big_at 0 2 rfl) (big_at 27 15 rfl) (big_at 27 14 rfl) rfl rfl (by decide +kernel) ⟨Nat.le_of_ble_eq_true rfl, Nat.le_of_ble_eq_true rfl⟩) hP hD hS hA rfl hl.1 rfl (Nat.le_of_ble_eq_true rfl) (MC := 90) ⟨rfl, rfl⟩ (6 * d + 52) (by omega) (by omega) dL_ducks_67 (fun u H locs cells slots hc hs hP hD hS => ?_)
        refine lv_t0 (show (bz (if plS V.σ k = true then 1 else 0)) = 0 from by rw [if_neg p9]; rfl) ?_
        refine lv_iload hx hb dL_ducks_70 (lv_at hl 1 rfl) ?_
        refine lv_if_eq (tgt := 79) hx hb dL_ducks_72 (by decide) (fun _ => ?_) (fun c9 => absurd (by decide) c9)
        refine lv_iconst (v := 0) hx hb dL_ducks_79 (by decide) ?_
        refine lv_icmp_ne (tgt := 91) hx hb dL_ducks_80 (by decide) (fun c9 => absurd (by decide) c9) (fun _ => ?_)
        refine lv_aload_n hx hb dL_ducks_83 rfl (lv_at hl 5 rfl) ?_
        refine lv_iload_n hx hb dL_ducks_84 rfl (lv_at hl 3 rfl) ?_
        refine lq_SW S9 hLF (q_quacks l G cy kS vS a V k ho hk9) (bigSW 2 hts (big_at 27 21 rfl) (big_at 0 2 rfl) (big_at 27 23 rfl) (big_at 27 22 rfl) rfl rfl (by decide +kernel) ⟨Nat.le_of_ble_eq_true rfl, Nat.le_of_ble_eq_true rfl⟩) hP hD hS hA rfl hl.1 rfl (Nat.le_of_ble_eq_true rfl) (MC := 90) ⟨rfl, rfl⟩ (6 * d + 51) (by omega) (by omega) dL_ducks_85 (fun u H locs cells slots hc hs hP hD hS => ?_)
        refine lv_if_ge (tgt := 93) hx hb dL_ducks_88 (by decide) (fun _ => ?_) (fun c9 => absurd (ge0_32 (hI.2.2.2.1 k (by omega)).1) c9)
        refine lv_iinc (v := nI (k + 1)) (lv' := [(3, .int (nI (k + 1))), (2, .int ((cntP (plS V.σ) k) + 0)), (5, .int 0), (4, .int (-13)), (1, .int (nI (nD V.σ))), (0, .ref a.aX)]) hx hb dL_ducks_93 hl (k := 3) rfl (m_inc _) (by decide) rfl (fun ls hl => ?_)
        refine lv_goto (tgt := 9) hx hb dL_ducks_96 (by decide) ?_
        have e9_2 : cntP (plS V.σ) (k + 1) = (cntP (plS V.σ) k) + 0 := (by rw [Int32.add_zero]; simp only [cntP]; rw [if_neg p9])
        exact ih (k + 1) (by omega) _ _ _ _ _ (by omega) (by omega) hP hD hS ls (by rw [e9_2]; exact lv_sub hl [0, 1, 4, 5] rfl)
  exact L9 (nD V.σ) 0 (by omega) _ _ _ _ _ (by omega) (by omega) hP hD hS ls (lv_sub hl [0, 1, 2, 3] rfl)
