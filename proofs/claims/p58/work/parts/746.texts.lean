/-! what the baths and events read -/
theorem ltS_len8 : (ltS 8).length = 1 ∧ (ltS 9).length = 1 ∧ (ltS 10).length = 1 ∧ (ltS 11).length = 0 ∧ (ltS 12).length = 1 ∧ (ltS 13).length = 1 ∧ (ltS 14).length = 1 := by decide
theorem FB_app {a b : List Int32} (h1 : FB a) (h2 : FB b) : FB (a ++ b) := fun c hc => (List.mem_append.mp hc).elim (h1 c) (h2 c)
set_option maxRecDepth 100000 in
set_option maxHeartbeats 12000000 in
theorem n_texts (l : Launch) (G : va_G) (cy : Nat → ClassId) (kS vS : Nat → Nat) (a : OA) (V : OV) (n0 : Nat) (hl9 : l.stackTraces = false) (hI : Inv n0 V.σ) (hE : Ev2 V.σ) (hn16 : V.nb ≤ 16) : LX l yL_texts 15 500 275 G cy kS vS a V [.ref a.aX] (fun V2 r2 => (V2.σ = V.σ ∧ V2.ρ = V.ρ ∧ V2.nx = V.nx ∧ V2.ct = V.ct ∧ V2.LN = V.LN ∧ V2.f = V.f) ∧ r2 = .int 1) := by
  refine LX.ofW (cc := cL_texts) (maxL := 5) (ret := (some .boolean)) (by decide) (big_at 29 12 rfl) (Nat.le_of_ble_eq_true rfl) ?_
  intro p e s m below meth cq u0 S9 hr hlocks hPQ hD hS hA ls hl
  obtain ⟨hx, hb, hml, hown, hts⟩ := id S9
  have hLF := LF.mk hPQ
  have hK := hLF.1
  have hSK := hLF.2.2.2.1
  have hDZ := hLF.2.2.2.2.1
  have hP : va_P G vwCl (fl [OW cy a V u0]) s.heap := hPQ.1.1
  have hD : va_D (va_A (OW cy a V u0) s.heap.size) (fl [OW cy a V u0]) := hD
  have hc : 0 + 275 ≤ 275 := Nat.le_of_ble_eq_true rfl
  have hs : 0 + 64 * 275 ≤ 64 * 275 := Nat.le_of_ble_eq_true rfl
  have hl : lv_has ls 5 [(0, .ref a.aX)] := hl
  have ho := hI.1
  have hN := ho.1
  have hEv := ho.2.2.1
  have hwt := hI.2.1
  have hbd := hI.bd
  refine lv_iconst (v := 0) hx hb dL_texts_0 (by decide) ?_
  refine lv_istore_n (lv' := [(1, .int 0), (0, .ref a.aX)]) hx hb dL_texts_1 rfl hl (by decide) rfl (fun ls hl => ?_)
  have L2 : ∀ (d k : Nat), k + d = nB V.σ → ∀ (u : OU) (nb : Nat) (fb : Nat → Int32) (H : Heap) (locs : List Loc) (cells slots : Nat), (nb ≤ 16) → cells + (40 * d + 60) ≤ 275 → slots + 64 * (40 * d + 60) ≤ 64 * 275 → va_P G vwCl (fl [OW cy a (OV.mk V.σ V.ρ V.nx V.ct V.LN V.f nb fb) u]) H → va_D (va_A (OW cy a V u0) s.heap.size) (fl [OW cy a (OV.mk V.σ V.ρ V.nx V.ct V.LN V.f nb fb) u]) → va_S (va_A (OW cy a V u0) s.heap.size) s.heap H locs → ∀ ls : Array Slot, lv_has ls 5 [(1, .int (nI k)), (0, .ref a.aX)] → W p l e ({ frames := 15, cells := 275, slots := 64 * 275, locals := 500 } : Room) s m ([.ref a.aX] : List Value).toArray below meth cq H locs cells slots (lxZ below ([.ref a.aX] : List Value).toArray s G cy a V u0 (fun V2 r2 => (V2.σ = V.σ ∧ V2.ρ = V.ρ ∧ V2.nx = V.nx ∧ V2.ct = V.ct ∧ V2.LN = V.LN ∧ V2.f = V.f) ∧ r2 = .int 1) 275) (F0 m 2 ls []) := by
    intro d
    induction d with
    | zero =>
      intro k hk u nb fb H locs cells slots hnb hc hs hP hD hS ls hl
      have hk9 : k = nB V.σ := by omega
      subst hk9
      refine lv_iload_n hx hb dL_texts_2 rfl (lv_at hl 0 rfl) ?_
      refine lv_aload_n hx hb dL_texts_3 rfl (lv_at hl 1 rfl) ?_
      refine lq_V S9 hLF (d_bathCount l G cy kS vS a (OV.mk V.σ V.ρ V.nx V.ct V.LN V.f nb fb) ho) (bigV 0 hts (big_at 16 12 rfl) (big_at 0 6 rfl) (big_at 16 15 rfl) (big_at 16 13 rfl) (big_at 16 14 rfl) rfl rfl (by decide +kernel) ⟨Nat.le_of_ble_eq_true rfl, Nat.le_of_ble_eq_true rfl⟩) hP hD hS hA rfl hl.1 rfl (Nat.le_of_ble_eq_true rfl) (MC := 275) ⟨rfl, rfl⟩ (60) (by omega) (by omega) dL_texts_4 (fun u H locs cells slots hc hs hP hD hS => ?_)
      refine lv_t0 (show (nI (nB V.σ)) = nI (nB V.σ) from rfl) ?_
      refine lv_icmp_ge (tgt := 147) hx hb dL_texts_7 (by decide) (fun _ => ?_) (fun c9 => absurd (Int32.le_refl _) c9)
      refine lv_aload_n hx hb dL_texts_147 rfl (lv_at hl 1 rfl) ?_
      refine lq_V S9 hLF (d_eventCount l G cy kS vS a (OV.mk V.σ V.ρ V.nx V.ct V.LN V.f nb fb) ho) (bigV 0 hts (big_at 42 8 rfl) (big_at 0 6 rfl) (big_at 42 11 rfl) (big_at 42 9 rfl) (big_at 42 10 rfl) rfl rfl (by decide +kernel) ⟨Nat.le_of_ble_eq_true rfl, Nat.le_of_ble_eq_true rfl⟩) hP hD hS hA rfl hl.1 rfl (Nat.le_of_ble_eq_true rfl) (MC := 275) ⟨rfl, rfl⟩ (60) (by omega) (by omega) dL_texts_148 (fun u H locs cells slots hc hs hP hD hS => ?_)
      refine lv_t0 (show (nI (nE V.σ)) = nI (nE V.σ) from rfl) ?_
      refine lv_istore_n (lv' := [(1, .int (nI (nE V.σ))), (0, .ref a.aX)]) hx hb dL_texts_151 rfl hl (by decide) rfl (fun ls hl => ?_)
      refine lv_iconst (v := 0) hx hb dL_texts_152 (by decide) ?_
      refine lv_istore_n (lv' := [(2, .int 0), (1, .int (nI (nE V.σ))), (0, .ref a.aX)]) hx hb dL_texts_153 rfl hl (by decide) rfl (fun ls hl => ?_)
      have L154 : ∀ (d k : Nat), k + d = nE V.σ → ∀ (u : OU) (H : Heap) (locs : List Loc) (cells slots : Nat), cells + (4 * d + 10) ≤ 275 → slots + 64 * (4 * d + 10) ≤ 64 * 275 → va_P G vwCl (fl [OW cy a (OV.mk V.σ V.ρ V.nx V.ct V.LN V.f nb fb) u]) H → va_D (va_A (OW cy a V u0) s.heap.size) (fl [OW cy a (OV.mk V.σ V.ρ V.nx V.ct V.LN V.f nb fb) u]) → va_S (va_A (OW cy a V u0) s.heap.size) s.heap H locs → ∀ ls : Array Slot, lv_has ls 5 [(2, .int (nI k)), (1, .int (nI (nE V.σ))), (0, .ref a.aX)] → W p l e ({ frames := 15, cells := 275, slots := 64 * 275, locals := 500 } : Room) s m ([.ref a.aX] : List Value).toArray below meth cq H locs cells slots (lxZ below ([.ref a.aX] : List Value).toArray s G cy a V u0 (fun V2 r2 => (V2.σ = V.σ ∧ V2.ρ = V.ρ ∧ V2.nx = V.nx ∧ V2.ct = V.ct ∧ V2.LN = V.LN ∧ V2.f = V.f) ∧ r2 = .int 1) 275) (F0 m 154 ls []) := by
        intro d
        induction d with
        | zero =>
          intro k hk u H locs cells slots hc hs hP hD hS ls hl
          have hk9 : k = nE V.σ := by omega
          subst hk9
          refine lv_iload_n hx hb dL_texts_154 rfl (lv_at hl 0 rfl) ?_
          refine lv_iload_n hx hb dL_texts_155 rfl (lv_at hl 1 rfl) ?_
          refine lv_icmp_ge (tgt := 250) hx hb dL_texts_156 (by decide) (fun _ => ?_) (fun c9 => absurd (Int32.le_refl _) c9)
          refine lv_iload_n hx hb dL_texts_250 rfl (lv_at hl 1 rfl) ?_
          refine lv_bipush (v := 10) hx hb dL_texts_251 (by decide) ?_
          refine lv_icmp_gt (tgt := 303) hx hb dL_texts_253 (by decide) (fun c9 => absurd c9 (fun z => absurd ((m_ltN (a := 10) (b := nE V.σ) rfl rfl (by omega) (by omega)).mp z) (by omega))) (fun _ => ?_)
          have ixn : ¬ inI (nI (nE V.σ)) (nI (nE V.σ)) = true := by simp [inI]
          have ixm : ¬ inI (-1) (nI (nE V.σ)) = true := by rw [inI_iff]; exact fun z => z.1 (by decide)
          have ixb : ¬ inI (nI (nB V.σ)) (nI (nB V.σ)) = true := by simp [inI]
          refine lv_aload_n hx hb dL_texts_256 rfl (lv_at hl 2 rfl) ?_
          refine lv_iload_n hx hb dL_texts_257 rfl (lv_at hl 1 rfl) ?_
          refine lq_SW S9 hLF (q_eventKind_x l G cy kS vS a (OV.mk V.σ V.ρ V.nx V.ct V.LN V.f nb fb) (nI (nE V.σ)) hl9 ho ixn) (bigSW 2 hts (big_at 42 14 rfl) (big_at 0 2 rfl) (big_at 42 16 rfl) (big_at 42 15 rfl) rfl rfl (by decide +kernel) ⟨Nat.le_of_ble_eq_true rfl, Nat.le_of_ble_eq_true rfl⟩) hP hD hS hA rfl hl.1 rfl (Nat.le_of_ble_eq_true rfl) (MC := 275) ⟨rfl, rfl⟩ (9) (by omega) (by omega) dL_texts_258 (fun u H locs cells slots hc hs hP hD hS => ?_)
          refine lv_bipush (v := (-13)) hx hb dL_texts_261 (by decide) ?_
          refine lv_icmp_ne (tgt := 303) hx hb dL_texts_263 (by decide) (fun c9 => absurd (by decide) c9) (fun _ => ?_)
          refine lv_aload_n hx hb dL_texts_266 rfl (lv_at hl 2 rfl) ?_
          refine lv_iload_n hx hb dL_texts_267 rfl (lv_at hl 1 rfl) ?_
          refine lq_SW S9 hLF (q_eventBath_x l G cy kS vS a (OV.mk V.σ V.ρ V.nx V.ct V.LN V.f nb fb) (nI (nE V.σ)) hl9 ho ixn) (bigSW 2 hts (big_at 44 21 rfl) (big_at 0 2 rfl) (big_at 44 23 rfl) (big_at 44 22 rfl) rfl rfl (by decide +kernel) ⟨Nat.le_of_ble_eq_true rfl, Nat.le_of_ble_eq_true rfl⟩) hP hD hS hA rfl hl.1 rfl (Nat.le_of_ble_eq_true rfl) (MC := 275) ⟨rfl, rfl⟩ (8) (by omega) (by omega) dL_texts_268 (fun u H locs cells slots hc hs hP hD hS => ?_)
          refine lv_bipush (v := (-13)) hx hb dL_texts_271 (by decide) ?_
          refine lv_icmp_ne (tgt := 303) hx hb dL_texts_273 (by decide) (fun c9 => absurd (by decide) c9) (fun _ => ?_)
          refine lv_aload_n hx hb dL_texts_276 rfl (lv_at hl 2 rfl) ?_
          refine lv_iconst (v := (-1)) hx hb dL_texts_277 (by decide) ?_
          refine lq_SW S9 hLF (q_eventLitres_x l G cy kS vS a (OV.mk V.σ V.ρ V.nx V.ct V.LN V.f nb fb) (-1) hl9 ho ixm) (bigSW 2 hts (big_at 45 5 rfl) (big_at 0 2 rfl) (big_at 45 7 rfl) (big_at 45 6 rfl) rfl rfl (by decide +kernel) ⟨Nat.le_of_ble_eq_true rfl, Nat.le_of_ble_eq_true rfl⟩) hP hD hS hA rfl hl.1 rfl (Nat.le_of_ble_eq_true rfl) (MC := 275) ⟨rfl, rfl⟩ (7) (by omega) (by omega) dL_texts_278 (fun u H locs cells slots hc hs hP hD hS => ?_)
          refine lv_bipush (v := (-13)) hx hb dL_texts_281 (by decide) ?_
          refine lv_icmp_ne (tgt := 303) hx hb dL_texts_283 (by decide) (fun c9 => absurd (by decide) c9) (fun _ => ?_)
          refine lv_aload_n hx hb dL_texts_286 rfl (lv_at hl 2 rfl) ?_
          refine lv_aload_n hx hb dL_texts_287 rfl (lv_at hl 2 rfl) ?_
          refine lq_V S9 hLF (d_bathCount l G cy kS vS a (OV.mk V.σ V.ρ V.nx V.ct V.LN V.f nb fb) ho) (bigV 0 hts (big_at 16 12 rfl) (big_at 0 6 rfl) (big_at 16 15 rfl) (big_at 16 13 rfl) (big_at 16 14 rfl) rfl rfl (by decide +kernel) ⟨Nat.le_of_ble_eq_true rfl, Nat.le_of_ble_eq_true rfl⟩) hP hD hS hA rfl hl.1 rfl (Nat.le_of_ble_eq_true rfl) (MC := 275) ⟨rfl, rfl⟩ (7) (by omega) (by omega) dL_texts_288 (fun u H locs cells slots hc hs hP hD hS => ?_)
          refine lv_t0 (show (nI (nB V.σ)) = nI (nB V.σ) from rfl) ?_
          refine lq_SW S9 hLF (q_renderBath_1 l G cy kS vS a (OV.mk V.σ V.ρ V.nx V.ct V.LN V.f nb fb) (nI (nB V.σ)) hl9 ho ixb) (bigSW 2 hts (big_at 38 6 rfl) (big_at 0 2 rfl) (big_at 38 8 rfl) (big_at 38 7 rfl) rfl rfl (by decide +kernel) ⟨Nat.le_of_ble_eq_true rfl, Nat.le_of_ble_eq_true rfl⟩) hP hD hS hA rfl hl.1 rfl (Nat.le_of_ble_eq_true rfl) (MC := 275) ⟨rfl, rfl⟩ (6) (by omega) (by omega) dL_texts_291 (fun u H locs cells slots hc hs hP hD hS => ?_)
          refine lv_bipush (v := (-11)) hx hb dL_texts_294 (by decide) ?_
          refine lv_icmp_ne (tgt := 303) hx hb dL_texts_296 (by decide) (fun c9 => absurd (by decide) c9) (fun _ => ?_)
          refine lv_iconst (v := 1) hx hb dL_texts_299 (by decide) ?_
          refine lv_goto (tgt := 304) hx hb dL_texts_300 (by decide) ?_
          exact lx_zret (V := (OV.mk V.σ V.ρ V.nx V.ct V.LN V.f nb fb)) hx hb hr hlocks (by rfl) ⟨⟨rfl, rfl, rfl, rfl, rfl, rfl⟩, rfl⟩ hP hS (by omega) (by omega) dL_texts_304
        | succ d ih =>
          intro k hk u H locs cells slots hc hs hP hD hS ls hl
          have hk9 : k < nE V.σ := by omega
          refine lv_iload_n hx hb dL_texts_154 rfl (lv_at hl 0 rfl) ?_
          refine lv_iload_n hx hb dL_texts_155 rfl (lv_at hl 1 rfl) ?_
          refine lv_icmp_ge (tgt := 250) hx hb dL_texts_156 (by decide) (fun c9 => absurd c9 (fun q => absurd ((nI_leI (by omega) (by omega)).mp q) (by omega))) (fun _ => ?_)
          refine lv_aload_n hx hb dL_texts_159 rfl (lv_at hl 2 rfl) ?_
          refine lv_iload_n hx hb dL_texts_160 rfl (lv_at hl 0 rfl) ?_
          refine lq_SW S9 hLF (q_eventKind l G cy kS vS a (OV.mk V.σ V.ρ V.nx V.ct V.LN V.f nb fb) k ho hk9) (bigSW 2 hts (big_at 42 14 rfl) (big_at 0 2 rfl) (big_at 42 16 rfl) (big_at 42 15 rfl) rfl rfl (by decide +kernel) ⟨Nat.le_of_ble_eq_true rfl, Nat.le_of_ble_eq_true rfl⟩) hP hD hS hA rfl hl.1 rfl (Nat.le_of_ble_eq_true rfl) (MC := 275) ⟨rfl, rfl⟩ (4 * d + 13) (by omega) (by omega) dL_texts_161 (fun u H locs cells slots hc hs hP hD hS => ?_)
          refine lv_t0 (show (kE V.σ k) = kE V.σ k from rfl) ?_
          obtain ⟨hb7, hk7⟩ := hE.2 k hk9
          obtain ⟨eb, hbx⟩ := m_ixp (by omega) hb7
          rcases hk7 with ⟨hk7 | hk7, hl7⟩ | ⟨hk7 | hk7 | hk7, hl7⟩
          · refine lv_t0 (show (kE V.σ k) = 116 from hk7) ?_
            refine lv_istore_n (lv' := [(3, .int 116), (2, .int (nI k)), (1, .int (nI (nE V.σ))), (0, .ref a.aX)]) hx hb dL_texts_164 rfl hl (by decide) rfl (fun ls hl => ?_)
            refine lv_iload_n hx hb dL_texts_165 rfl (lv_at hl 0 rfl) ?_
            refine lv_bipush (v := 116) hx hb dL_texts_166 (by decide) ?_
            refine lv_icmp_eq (tgt := 177) hx hb dL_texts_168 (by decide) (fun _ => ?_) (fun c9 => absurd (by decide) c9)
            refine lv_iconst (v := 1) hx hb dL_texts_177 (by decide) ?_
            refine lv_goto (tgt := 182) hx hb dL_texts_178 (by decide) ?_
            refine lv_istore (lv' := [(4, .int 1), (3, .int 116), (2, .int (nI k)), (1, .int (nI (nE V.σ))), (0, .ref a.aX)]) hx hb dL_texts_182 hl (by decide) rfl (fun ls hl => ?_)
            refine va_ldcSw hx hb hown (hSK.2.1 15 (by decide)) dL_texts_184 ?_
            refine lv_iload_n hx hb dL_texts_187 rfl (lv_at hl 1 rfl) ?_
            refine lv_i2c (v := 116) hx hb dL_texts_188 (by decide) ?_
            refine m_ro (va_runV S9 (z_ix0 l G cy kS vS) (bigV 1 hts (big_at 42 22 rfl) (big_at 32 16 rfl) (big_at 43 1 rfl) (big_at 42 23 rfl) (big_at 43 0 rfl) rfl rfl (by decide +kernel) ⟨Nat.le_of_ble_eq_true rfl, Nat.le_of_ble_eq_true rfl⟩) ⟨fun b2 U g mk q => ⟨q.1, PJ.blind U g mk b2 q.2⟩, (strI.kept9 (hSK.1.1 15 (by decide)) hS (fun q h => h)).recv, fun U hU hW => ⟨rfl, PJ.at hSK hDZ hS (fr_nil hS hA) hK (m_Ppart hP [] rfl) U hU hW⟩⟩ (g := F0 m _ ls _) rfl rfl hl.1 rfl (lv_room (Nat.le_of_ble_eq_true rfl)) dL_texts_189 ⟨(show _ ≤ 275 by omega), (show _ ≤ 64 * 275 by omega)⟩) ?_
            refine lv_if_lt (tgt := 242) hx hb dL_texts_192 (by decide) (fun c9 => absurd c9 (by decide)) (fun _ => ?_)
            refine lv_aload_n hx hb dL_texts_195 rfl (lv_at hl 4 rfl) ?_
            refine lv_iload_n hx hb dL_texts_196 rfl (lv_at hl 2 rfl) ?_
            refine lq_SW S9 hLF (q_eventBath l G cy kS vS a (OV.mk V.σ V.ρ V.nx V.ct V.LN V.f nb fb) k ho hk9) (bigSW 2 hts (big_at 44 21 rfl) (big_at 0 2 rfl) (big_at 44 23 rfl) (big_at 44 22 rfl) rfl rfl (by decide +kernel) ⟨Nat.le_of_ble_eq_true rfl, Nat.le_of_ble_eq_true rfl⟩) hP hD hS hA rfl hl.1 rfl (Nat.le_of_ble_eq_true rfl) (MC := 275) ⟨rfl, rfl⟩ (4 * d + 12) (by omega) (by omega) dL_texts_197 (fun u H locs cells slots hc hs hP hD hS => ?_)
            refine lv_t0 (show (bE V.σ k) = bE V.σ k from rfl) ?_
            refine lv_t0 (show (bE V.σ k) = nI (bx (bE V.σ k)) from eb) ?_
            refine lv_if_lt (tgt := 242) hx hb dL_texts_200 (by decide) (fun c9 => absurd c9 (ge0_nI (by omega))) (fun _ => ?_)
            refine lv_aload_n hx hb dL_texts_203 rfl (lv_at hl 4 rfl) ?_
            refine lv_iload_n hx hb dL_texts_204 rfl (lv_at hl 2 rfl) ?_
            refine lq_SW S9 hLF (q_eventBath l G cy kS vS a (OV.mk V.σ V.ρ V.nx V.ct V.LN V.f nb fb) k ho hk9) (bigSW 2 hts (big_at 44 21 rfl) (big_at 0 2 rfl) (big_at 44 23 rfl) (big_at 44 22 rfl) rfl rfl (by decide +kernel) ⟨Nat.le_of_ble_eq_true rfl, Nat.le_of_ble_eq_true rfl⟩) hP hD hS hA rfl hl.1 rfl (Nat.le_of_ble_eq_true rfl) (MC := 275) ⟨rfl, rfl⟩ (4 * d + 11) (by omega) (by omega) dL_texts_205 (fun u H locs cells slots hc hs hP hD hS => ?_)
            refine lv_t0 (show (bE V.σ k) = bE V.σ k from rfl) ?_
            refine lv_t0 (show (bE V.σ k) = nI (bx (bE V.σ k)) from eb) ?_
            refine lv_aload_n hx hb dL_texts_208 rfl (lv_at hl 4 rfl) ?_
            refine lq_V S9 hLF (d_bathCount l G cy kS vS a (OV.mk V.σ V.ρ V.nx V.ct V.LN V.f nb fb) ho) (bigV 0 hts (big_at 16 12 rfl) (big_at 0 6 rfl) (big_at 16 15 rfl) (big_at 16 13 rfl) (big_at 16 14 rfl) rfl rfl (by decide +kernel) ⟨Nat.le_of_ble_eq_true rfl, Nat.le_of_ble_eq_true rfl⟩) hP hD hS hA rfl hl.1 rfl (Nat.le_of_ble_eq_true rfl) (MC := 275) ⟨rfl, rfl⟩ (4 * d + 11) (by omega) (by omega) dL_texts_209 (fun u H locs cells slots hc hs hP hD hS => ?_)
            refine lv_t0 (show (nI (nB V.σ)) = nI (nB V.σ) from rfl) ?_
            refine lv_icmp_ge (tgt := 242) hx hb dL_texts_212 (by decide) (fun c9 => absurd c9 (fun z => absurd ((nI_leI (by omega) (by omega)).mp z) (by omega))) (fun _ => ?_)
            refine lv_iload hx hb dL_texts_215 (lv_at hl 0 rfl) ?_
            refine lv_if_eq (tgt := 232) hx hb dL_texts_217 (by decide) (fun c9 => absurd c9 (by decide)) (fun _ => ?_)
            refine lv_aload_n hx hb dL_texts_220 rfl (lv_at hl 4 rfl) ?_
            refine lv_iload_n hx hb dL_texts_221 rfl (lv_at hl 2 rfl) ?_
            have hne : ¬ lE V.σ k = -1 := fun z => by rw [z] at hl7; exact absurd hl7 (by decide)
            refine lq_SW S9 hLF (q_eventLitres l G cy kS vS a (OV.mk V.σ V.ρ V.nx V.ct V.LN V.f nb fb) k ho hk9 hne) (bigSW 2 hts (big_at 45 5 rfl) (big_at 0 2 rfl) (big_at 45 7 rfl) (big_at 45 6 rfl) rfl rfl (by decide +kernel) ⟨Nat.le_of_ble_eq_true rfl, Nat.le_of_ble_eq_true rfl⟩) hP hD hS hA rfl hl.1 rfl (Nat.le_of_ble_eq_true rfl) (MC := 275) ⟨rfl, rfl⟩ (4 * d + 10) (by omega) (by omega) dL_texts_222 (fun u H locs cells slots hc hs hP hD hS => ?_)
            refine lv_t0 (show (lE V.σ k) = lE V.σ k from rfl) ?_
            refine lv_iconst (v := 1) hx hb dL_texts_225 (by decide) ?_
            refine lv_icmp_ge (tgt := 244) hx hb dL_texts_226 (by decide) (fun _ => ?_) (fun c9 => absurd (by rw [Int32.le_iff_toInt_le, show (1 : Int32).toInt = 1 from by decide]; omega) c9)
            refine lv_iinc (v := nI (k + 1)) (lv' := [(2, .int (nI (k + 1))), (4, .int 1), (3, .int 116), (1, .int (nI (nE V.σ))), (0, .ref a.aX)]) hx hb dL_texts_244 hl (k := 2) rfl (m_inc _) (by decide) rfl (fun ls hl => ?_)
            refine lv_goto (tgt := 154) hx hb dL_texts_247 (by decide) ?_
            exact ih (k + 1) (by omega) _ _ _ _ _ (by omega) (by omega) hP hD hS ls (lv_sub hl [0, 3, 4] rfl)
          · refine lv_t0 (show (kE V.σ k) = 112 from hk7) ?_
            refine lv_istore_n (lv' := [(3, .int 112), (2, .int (nI k)), (1, .int (nI (nE V.σ))), (0, .ref a.aX)]) hx hb dL_texts_164 rfl hl (by decide) rfl (fun ls hl => ?_)
            refine lv_iload_n hx hb dL_texts_165 rfl (lv_at hl 0 rfl) ?_
            refine lv_bipush (v := 116) hx hb dL_texts_166 (by decide) ?_
            refine lv_icmp_eq (tgt := 177) hx hb dL_texts_168 (by decide) (fun c9 => absurd c9 (by decide)) (fun _ => ?_)
            refine lv_iload_n hx hb dL_texts_171 rfl (lv_at hl 0 rfl) ?_
            refine lv_bipush (v := 112) hx hb dL_texts_172 (by decide) ?_
            refine lv_icmp_ne (tgt := 181) hx hb dL_texts_174 (by decide) (fun c9 => absurd (by decide) c9) (fun _ => ?_)
            refine lv_iconst (v := 1) hx hb dL_texts_177 (by decide) ?_
            refine lv_goto (tgt := 182) hx hb dL_texts_178 (by decide) ?_
            refine lv_istore (lv' := [(4, .int 1), (3, .int 112), (2, .int (nI k)), (1, .int (nI (nE V.σ))), (0, .ref a.aX)]) hx hb dL_texts_182 hl (by decide) rfl (fun ls hl => ?_)
            refine va_ldcSw hx hb hown (hSK.2.1 15 (by decide)) dL_texts_184 ?_
            refine lv_iload_n hx hb dL_texts_187 rfl (lv_at hl 1 rfl) ?_
            refine lv_i2c (v := 112) hx hb dL_texts_188 (by decide) ?_
            refine m_ro (va_runV S9 (z_ix1 l G cy kS vS) (bigV 1 hts (big_at 42 22 rfl) (big_at 32 16 rfl) (big_at 43 1 rfl) (big_at 42 23 rfl) (big_at 43 0 rfl) rfl rfl (by decide +kernel) ⟨Nat.le_of_ble_eq_true rfl, Nat.le_of_ble_eq_true rfl⟩) ⟨fun b2 U g mk q => ⟨q.1, PJ.blind U g mk b2 q.2⟩, (strI.kept9 (hSK.1.1 15 (by decide)) hS (fun q h => h)).recv, fun U hU hW => ⟨rfl, PJ.at hSK hDZ hS (fr_nil hS hA) hK (m_Ppart hP [] rfl) U hU hW⟩⟩ (g := F0 m _ ls _) rfl rfl hl.1 rfl (lv_room (Nat.le_of_ble_eq_true rfl)) dL_texts_189 ⟨(show _ ≤ 275 by omega), (show _ ≤ 64 * 275 by omega)⟩) ?_
            refine lv_if_lt (tgt := 242) hx hb dL_texts_192 (by decide) (fun c9 => absurd c9 (by decide)) (fun _ => ?_)
            refine lv_aload_n hx hb dL_texts_195 rfl (lv_at hl 4 rfl) ?_
            refine lv_iload_n hx hb dL_texts_196 rfl (lv_at hl 2 rfl) ?_
            refine lq_SW S9 hLF (q_eventBath l G cy kS vS a (OV.mk V.σ V.ρ V.nx V.ct V.LN V.f nb fb) k ho hk9) (bigSW 2 hts (big_at 44 21 rfl) (big_at 0 2 rfl) (big_at 44 23 rfl) (big_at 44 22 rfl) rfl rfl (by decide +kernel) ⟨Nat.le_of_ble_eq_true rfl, Nat.le_of_ble_eq_true rfl⟩) hP hD hS hA rfl hl.1 rfl (Nat.le_of_ble_eq_true rfl) (MC := 275) ⟨rfl, rfl⟩ (4 * d + 12) (by omega) (by omega) dL_texts_197 (fun u H locs cells slots hc hs hP hD hS => ?_)
            refine lv_t0 (show (bE V.σ k) = bE V.σ k from rfl) ?_
            refine lv_t0 (show (bE V.σ k) = nI (bx (bE V.σ k)) from eb) ?_
            refine lv_if_lt (tgt := 242) hx hb dL_texts_200 (by decide) (fun c9 => absurd c9 (ge0_nI (by omega))) (fun _ => ?_)
            refine lv_aload_n hx hb dL_texts_203 rfl (lv_at hl 4 rfl) ?_
            refine lv_iload_n hx hb dL_texts_204 rfl (lv_at hl 2 rfl) ?_
            refine lq_SW S9 hLF (q_eventBath l G cy kS vS a (OV.mk V.σ V.ρ V.nx V.ct V.LN V.f nb fb) k ho hk9) (bigSW 2 hts (big_at 44 21 rfl) (big_at 0 2 rfl) (big_at 44 23 rfl) (big_at 44 22 rfl) rfl rfl (by decide +kernel) ⟨Nat.le_of_ble_eq_true rfl, Nat.le_of_ble_eq_true rfl⟩) hP hD hS hA rfl hl.1 rfl (Nat.le_of_ble_eq_true rfl) (MC := 275) ⟨rfl, rfl⟩ (4 * d + 11) (by omega) (by omega) dL_texts_205 (fun u H locs cells slots hc hs hP hD hS => ?_)
            refine lv_t0 (show (bE V.σ k) = bE V.σ k from rfl) ?_
            refine lv_t0 (show (bE V.σ k) = nI (bx (bE V.σ k)) from eb) ?_
            refine lv_aload_n hx hb dL_texts_208 rfl (lv_at hl 4 rfl) ?_
            refine lq_V S9 hLF (d_bathCount l G cy kS vS a (OV.mk V.σ V.ρ V.nx V.ct V.LN V.f nb fb) ho) (bigV 0 hts (big_at 16 12 rfl) (big_at 0 6 rfl) (big_at 16 15 rfl) (big_at 16 13 rfl) (big_at 16 14 rfl) rfl rfl (by decide +kernel) ⟨Nat.le_of_ble_eq_true rfl, Nat.le_of_ble_eq_true rfl⟩) hP hD hS hA rfl hl.1 rfl (Nat.le_of_ble_eq_true rfl) (MC := 275) ⟨rfl, rfl⟩ (4 * d + 11) (by omega) (by omega) dL_texts_209 (fun u H locs cells slots hc hs hP hD hS => ?_)
            refine lv_t0 (show (nI (nB V.σ)) = nI (nB V.σ) from rfl) ?_
            refine lv_icmp_ge (tgt := 242) hx hb dL_texts_212 (by decide) (fun c9 => absurd c9 (fun z => absurd ((nI_leI (by omega) (by omega)).mp z) (by omega))) (fun _ => ?_)
            refine lv_iload hx hb dL_texts_215 (lv_at hl 0 rfl) ?_
            refine lv_if_eq (tgt := 232) hx hb dL_texts_217 (by decide) (fun c9 => absurd c9 (by decide)) (fun _ => ?_)
            refine lv_aload_n hx hb dL_texts_220 rfl (lv_at hl 4 rfl) ?_
            refine lv_iload_n hx hb dL_texts_221 rfl (lv_at hl 2 rfl) ?_
            have hne : ¬ lE V.σ k = -1 := fun z => by rw [z] at hl7; exact absurd hl7 (by decide)
            refine lq_SW S9 hLF (q_eventLitres l G cy kS vS a (OV.mk V.σ V.ρ V.nx V.ct V.LN V.f nb fb) k ho hk9 hne) (bigSW 2 hts (big_at 45 5 rfl) (big_at 0 2 rfl) (big_at 45 7 rfl) (big_at 45 6 rfl) rfl rfl (by decide +kernel) ⟨Nat.le_of_ble_eq_true rfl, Nat.le_of_ble_eq_true rfl⟩) hP hD hS hA rfl hl.1 rfl (Nat.le_of_ble_eq_true rfl) (MC := 275) ⟨rfl, rfl⟩ (4 * d + 10) (by omega) (by omega) dL_texts_222 (fun u H locs cells slots hc hs hP hD hS => ?_)
            refine lv_t0 (show (lE V.σ k) = lE V.σ k from rfl) ?_
            refine lv_iconst (v := 1) hx hb dL_texts_225 (by decide) ?_
            refine lv_icmp_ge (tgt := 244) hx hb dL_texts_226 (by decide) (fun _ => ?_) (fun c9 => absurd (by rw [Int32.le_iff_toInt_le, show (1 : Int32).toInt = 1 from by decide]; omega) c9)
            refine lv_iinc (v := nI (k + 1)) (lv' := [(2, .int (nI (k + 1))), (4, .int 1), (3, .int 112), (1, .int (nI (nE V.σ))), (0, .ref a.aX)]) hx hb dL_texts_244 hl (k := 2) rfl (m_inc _) (by decide) rfl (fun ls hl => ?_)
            refine lv_goto (tgt := 154) hx hb dL_texts_247 (by decide) ?_
            exact ih (k + 1) (by omega) _ _ _ _ _ (by omega) (by omega) hP hD hS ls (lv_sub hl [0, 3, 4] rfl)
          · refine lv_t0 (show (kE V.σ k) = 106 from hk7) ?_
            refine lv_istore_n (lv' := [(3, .int 106), (2, .int (nI k)), (1, .int (nI (nE V.σ))), (0, .ref a.aX)]) hx hb dL_texts_164 rfl hl (by decide) rfl (fun ls hl => ?_)
            refine lv_iload_n hx hb dL_texts_165 rfl (lv_at hl 0 rfl) ?_
            refine lv_bipush (v := 116) hx hb dL_texts_166 (by decide) ?_
            refine lv_icmp_eq (tgt := 177) hx hb dL_texts_168 (by decide) (fun c9 => absurd c9 (by decide)) (fun _ => ?_)
            refine lv_iload_n hx hb dL_texts_171 rfl (lv_at hl 0 rfl) ?_
            refine lv_bipush (v := 112) hx hb dL_texts_172 (by decide) ?_
            refine lv_icmp_ne (tgt := 181) hx hb dL_texts_174 (by decide) (fun _ => ?_) (fun c9 => absurd c9 (by decide))
            refine lv_iconst (v := 0) hx hb dL_texts_181 (by decide) ?_
            refine lv_istore (lv' := [(4, .int 0), (3, .int 106), (2, .int (nI k)), (1, .int (nI (nE V.σ))), (0, .ref a.aX)]) hx hb dL_texts_182 hl (by decide) rfl (fun ls hl => ?_)
            refine va_ldcSw hx hb hown (hSK.2.1 15 (by decide)) dL_texts_184 ?_
            refine lv_iload_n hx hb dL_texts_187 rfl (lv_at hl 1 rfl) ?_
            refine lv_i2c (v := 106) hx hb dL_texts_188 (by decide) ?_
            refine m_ro (va_runV S9 (z_ix2 l G cy kS vS) (bigV 1 hts (big_at 42 22 rfl) (big_at 32 16 rfl) (big_at 43 1 rfl) (big_at 42 23 rfl) (big_at 43 0 rfl) rfl rfl (by decide +kernel) ⟨Nat.le_of_ble_eq_true rfl, Nat.le_of_ble_eq_true rfl⟩) ⟨fun b2 U g mk q => ⟨q.1, PJ.blind U g mk b2 q.2⟩, (strI.kept9 (hSK.1.1 15 (by decide)) hS (fun q h => h)).recv, fun U hU hW => ⟨rfl, PJ.at hSK hDZ hS (fr_nil hS hA) hK (m_Ppart hP [] rfl) U hU hW⟩⟩ (g := F0 m _ ls _) rfl rfl hl.1 rfl (lv_room (Nat.le_of_ble_eq_true rfl)) dL_texts_189 ⟨(show _ ≤ 275 by omega), (show _ ≤ 64 * 275 by omega)⟩) ?_
            refine lv_if_lt (tgt := 242) hx hb dL_texts_192 (by decide) (fun c9 => absurd c9 (by decide)) (fun _ => ?_)
            refine lv_aload_n hx hb dL_texts_195 rfl (lv_at hl 4 rfl) ?_
            refine lv_iload_n hx hb dL_texts_196 rfl (lv_at hl 2 rfl) ?_
            refine lq_SW S9 hLF (q_eventBath l G cy kS vS a (OV.mk V.σ V.ρ V.nx V.ct V.LN V.f nb fb) k ho hk9) (bigSW 2 hts (big_at 44 21 rfl) (big_at 0 2 rfl) (big_at 44 23 rfl) (big_at 44 22 rfl) rfl rfl (by decide +kernel) ⟨Nat.le_of_ble_eq_true rfl, Nat.le_of_ble_eq_true rfl⟩) hP hD hS hA rfl hl.1 rfl (Nat.le_of_ble_eq_true rfl) (MC := 275) ⟨rfl, rfl⟩ (4 * d + 12) (by omega) (by omega) dL_texts_197 (fun u H locs cells slots hc hs hP hD hS => ?_)
            refine lv_t0 (show (bE V.σ k) = bE V.σ k from rfl) ?_
            refine lv_t0 (show (bE V.σ k) = nI (bx (bE V.σ k)) from eb) ?_
            refine lv_if_lt (tgt := 242) hx hb dL_texts_200 (by decide) (fun c9 => absurd c9 (ge0_nI (by omega))) (fun _ => ?_)
            refine lv_aload_n hx hb dL_texts_203 rfl (lv_at hl 4 rfl) ?_
            refine lv_iload_n hx hb dL_texts_204 rfl (lv_at hl 2 rfl) ?_
            refine lq_SW S9 hLF (q_eventBath l G cy kS vS a (OV.mk V.σ V.ρ V.nx V.ct V.LN V.f nb fb) k ho hk9) (bigSW 2 hts (big_at 44 21 rfl) (big_at 0 2 rfl) (big_at 44 23 rfl) (big_at 44 22 rfl) rfl rfl (by decide +kernel) ⟨Nat.le_of_ble_eq_true rfl, Nat.le_of_ble_eq_true rfl⟩) hP hD hS hA rfl hl.1 rfl (Nat.le_of_ble_eq_true rfl) (MC := 275) ⟨rfl, rfl⟩ (4 * d + 11) (by omega) (by omega) dL_texts_205 (fun u H locs cells slots hc hs hP hD hS => ?_)
            refine lv_t0 (show (bE V.σ k) = bE V.σ k from rfl) ?_
            refine lv_t0 (show (bE V.σ k) = nI (bx (bE V.σ k)) from eb) ?_
            refine lv_aload_n hx hb dL_texts_208 rfl (lv_at hl 4 rfl) ?_
            refine lq_V S9 hLF (d_bathCount l G cy kS vS a (OV.mk V.σ V.ρ V.nx V.ct V.LN V.f nb fb) ho) (bigV 0 hts (big_at 16 12 rfl) (big_at 0 6 rfl) (big_at 16 15 rfl) (big_at 16 13 rfl) (big_at 16 14 rfl) rfl rfl (by decide +kernel) ⟨Nat.le_of_ble_eq_true rfl, Nat.le_of_ble_eq_true rfl⟩) hP hD hS hA rfl hl.1 rfl (Nat.le_of_ble_eq_true rfl) (MC := 275) ⟨rfl, rfl⟩ (4 * d + 11) (by omega) (by omega) dL_texts_209 (fun u H locs cells slots hc hs hP hD hS => ?_)
            refine lv_t0 (show (nI (nB V.σ)) = nI (nB V.σ) from rfl) ?_
            refine lv_icmp_ge (tgt := 242) hx hb dL_texts_212 (by decide) (fun c9 => absurd c9 (fun z => absurd ((nI_leI (by omega) (by omega)).mp z) (by omega))) (fun _ => ?_)
            refine lv_iload hx hb dL_texts_215 (lv_at hl 0 rfl) ?_
            refine lv_if_eq (tgt := 232) hx hb dL_texts_217 (by decide) (fun _ => ?_) (fun c9 => absurd (by decide) c9)
            refine lv_aload_n hx hb dL_texts_232 rfl (lv_at hl 4 rfl) ?_
            refine lv_iload_n hx hb dL_texts_233 rfl (lv_at hl 2 rfl) ?_
            refine lq_SW S9 hLF (q_eventLitres_2 l G cy kS vS a (OV.mk V.σ V.ρ V.nx V.ct V.LN V.f nb fb) k hl9 ho hk9 hl7) (bigSW 2 hts (big_at 45 5 rfl) (big_at 0 2 rfl) (big_at 45 7 rfl) (big_at 45 6 rfl) rfl rfl (by decide +kernel) ⟨Nat.le_of_ble_eq_true rfl, Nat.le_of_ble_eq_true rfl⟩) hP hD hS hA rfl hl.1 rfl (Nat.le_of_ble_eq_true rfl) (MC := 275) ⟨rfl, rfl⟩ (4 * d + 10) (by omega) (by omega) dL_texts_234 (fun u H locs cells slots hc hs hP hD hS => ?_)
            refine lv_bipush (v := (-13)) hx hb dL_texts_237 (by decide) ?_
            refine lv_icmp_eq (tgt := 244) hx hb dL_texts_239 (by decide) (fun _ => ?_) (fun c9 => absurd (by decide) c9)
            refine lv_iinc (v := nI (k + 1)) (lv' := [(2, .int (nI (k + 1))), (4, .int 0), (3, .int 106), (1, .int (nI (nE V.σ))), (0, .ref a.aX)]) hx hb dL_texts_244 hl (k := 2) rfl (m_inc _) (by decide) rfl (fun ls hl => ?_)
            refine lv_goto (tgt := 154) hx hb dL_texts_247 (by decide) ?_
            exact ih (k + 1) (by omega) _ _ _ _ _ (by omega) (by omega) hP hD hS ls (lv_sub hl [0, 3, 4] rfl)
          · refine lv_t0 (show (kE V.σ k) = 108 from hk7) ?_
            refine lv_istore_n (lv' := [(3, .int 108), (2, .int (nI k)), (1, .int (nI (nE V.σ))), (0, .ref a.aX)]) hx hb dL_texts_164 rfl hl (by decide) rfl (fun ls hl => ?_)
            refine lv_iload_n hx hb dL_texts_165 rfl (lv_at hl 0 rfl) ?_
            refine lv_bipush (v := 116) hx hb dL_texts_166 (by decide) ?_
            refine lv_icmp_eq (tgt := 177) hx hb dL_texts_168 (by decide) (fun c9 => absurd c9 (by decide)) (fun _ => ?_)
            refine lv_iload_n hx hb dL_texts_171 rfl (lv_at hl 0 rfl) ?_
            refine lv_bipush (v := 112) hx hb dL_texts_172 (by decide) ?_
            refine lv_icmp_ne (tgt := 181) hx hb dL_texts_174 (by decide) (fun _ => ?_) (fun c9 => absurd c9 (by decide))
            refine lv_iconst (v := 0) hx hb dL_texts_181 (by decide) ?_
            refine lv_istore (lv' := [(4, .int 0), (3, .int 108), (2, .int (nI k)), (1, .int (nI (nE V.σ))), (0, .ref a.aX)]) hx hb dL_texts_182 hl (by decide) rfl (fun ls hl => ?_)
            refine va_ldcSw hx hb hown (hSK.2.1 15 (by decide)) dL_texts_184 ?_
            refine lv_iload_n hx hb dL_texts_187 rfl (lv_at hl 1 rfl) ?_
            refine lv_i2c (v := 108) hx hb dL_texts_188 (by decide) ?_
            refine m_ro (va_runV S9 (z_ix3 l G cy kS vS) (bigV 1 hts (big_at 42 22 rfl) (big_at 32 16 rfl) (big_at 43 1 rfl) (big_at 42 23 rfl) (big_at 43 0 rfl) rfl rfl (by decide +kernel) ⟨Nat.le_of_ble_eq_true rfl, Nat.le_of_ble_eq_true rfl⟩) ⟨fun b2 U g mk q => ⟨q.1, PJ.blind U g mk b2 q.2⟩, (strI.kept9 (hSK.1.1 15 (by decide)) hS (fun q h => h)).recv, fun U hU hW => ⟨rfl, PJ.at hSK hDZ hS (fr_nil hS hA) hK (m_Ppart hP [] rfl) U hU hW⟩⟩ (g := F0 m _ ls _) rfl rfl hl.1 rfl (lv_room (Nat.le_of_ble_eq_true rfl)) dL_texts_189 ⟨(show _ ≤ 275 by omega), (show _ ≤ 64 * 275 by omega)⟩) ?_
            refine lv_if_lt (tgt := 242) hx hb dL_texts_192 (by decide) (fun c9 => absurd c9 (by decide)) (fun _ => ?_)
            refine lv_aload_n hx hb dL_texts_195 rfl (lv_at hl 4 rfl) ?_
            refine lv_iload_n hx hb dL_texts_196 rfl (lv_at hl 2 rfl) ?_
            refine lq_SW S9 hLF (q_eventBath l G cy kS vS a (OV.mk V.σ V.ρ V.nx V.ct V.LN V.f nb fb) k ho hk9) (bigSW 2 hts (big_at 44 21 rfl) (big_at 0 2 rfl) (big_at 44 23 rfl) (big_at 44 22 rfl) rfl rfl (by decide +kernel) ⟨Nat.le_of_ble_eq_true rfl, Nat.le_of_ble_eq_true rfl⟩) hP hD hS hA rfl hl.1 rfl (Nat.le_of_ble_eq_true rfl) (MC := 275) ⟨rfl, rfl⟩ (4 * d + 12) (by omega) (by omega) dL_texts_197 (fun u H locs cells slots hc hs hP hD hS => ?_)
            refine lv_t0 (show (bE V.σ k) = bE V.σ k from rfl) ?_
            refine lv_t0 (show (bE V.σ k) = nI (bx (bE V.σ k)) from eb) ?_
            refine lv_if_lt (tgt := 242) hx hb dL_texts_200 (by decide) (fun c9 => absurd c9 (ge0_nI (by omega))) (fun _ => ?_)
            refine lv_aload_n hx hb dL_texts_203 rfl (lv_at hl 4 rfl) ?_
            refine lv_iload_n hx hb dL_texts_204 rfl (lv_at hl 2 rfl) ?_
            refine lq_SW S9 hLF (q_eventBath l G cy kS vS a (OV.mk V.σ V.ρ V.nx V.ct V.LN V.f nb fb) k ho hk9) (bigSW 2 hts (big_at 44 21 rfl) (big_at 0 2 rfl) (big_at 44 23 rfl) (big_at 44 22 rfl) rfl rfl (by decide +kernel) ⟨Nat.le_of_ble_eq_true rfl, Nat.le_of_ble_eq_true rfl⟩) hP hD hS hA rfl hl.1 rfl (Nat.le_of_ble_eq_true rfl) (MC := 275) ⟨rfl, rfl⟩ (4 * d + 11) (by omega) (by omega) dL_texts_205 (fun u H locs cells slots hc hs hP hD hS => ?_)
            refine lv_t0 (show (bE V.σ k) = bE V.σ k from rfl) ?_
            refine lv_t0 (show (bE V.σ k) = nI (bx (bE V.σ k)) from eb) ?_
            refine lv_aload_n hx hb dL_texts_208 rfl (lv_at hl 4 rfl) ?_
            refine lq_V S9 hLF (d_bathCount l G cy kS vS a (OV.mk V.σ V.ρ V.nx V.ct V.LN V.f nb fb) ho) (bigV 0 hts (big_at 16 12 rfl) (big_at 0 6 rfl) (big_at 16 15 rfl) (big_at 16 13 rfl) (big_at 16 14 rfl) rfl rfl (by decide +kernel) ⟨Nat.le_of_ble_eq_true rfl, Nat.le_of_ble_eq_true rfl⟩) hP hD hS hA rfl hl.1 rfl (Nat.le_of_ble_eq_true rfl) (MC := 275) ⟨rfl, rfl⟩ (4 * d + 11) (by omega) (by omega) dL_texts_209 (fun u H locs cells slots hc hs hP hD hS => ?_)
            refine lv_t0 (show (nI (nB V.σ)) = nI (nB V.σ) from rfl) ?_
            refine lv_icmp_ge (tgt := 242) hx hb dL_texts_212 (by decide) (fun c9 => absurd c9 (fun z => absurd ((nI_leI (by omega) (by omega)).mp z) (by omega))) (fun _ => ?_)
            refine lv_iload hx hb dL_texts_215 (lv_at hl 0 rfl) ?_
            refine lv_if_eq (tgt := 232) hx hb dL_texts_217 (by decide) (fun _ => ?_) (fun c9 => absurd (by decide) c9)
            refine lv_aload_n hx hb dL_texts_232 rfl (lv_at hl 4 rfl) ?_
            refine lv_iload_n hx hb dL_texts_233 rfl (lv_at hl 2 rfl) ?_
            refine lq_SW S9 hLF (q_eventLitres_2 l G cy kS vS a (OV.mk V.σ V.ρ V.nx V.ct V.LN V.f nb fb) k hl9 ho hk9 hl7) (bigSW 2 hts (big_at 45 5 rfl) (big_at 0 2 rfl) (big_at 45 7 rfl) (big_at 45 6 rfl) rfl rfl (by decide +kernel) ⟨Nat.le_of_ble_eq_true rfl, Nat.le_of_ble_eq_true rfl⟩) hP hD hS hA rfl hl.1 rfl (Nat.le_of_ble_eq_true rfl) (MC := 275) ⟨rfl, rfl⟩ (4 * d + 10) (by omega) (by omega) dL_texts_234 (fun u H locs cells slots hc hs hP hD hS => ?_)
            refine lv_bipush (v := (-13)) hx hb dL_texts_237 (by decide) ?_
            refine lv_icmp_eq (tgt := 244) hx hb dL_texts_239 (by decide) (fun _ => ?_) (fun c9 => absurd (by decide) c9)
            refine lv_iinc (v := nI (k + 1)) (lv' := [(2, .int (nI (k + 1))), (4, .int 0), (3, .int 108), (1, .int (nI (nE V.σ))), (0, .ref a.aX)]) hx hb dL_texts_244 hl (k := 2) rfl (m_inc _) (by decide) rfl (fun ls hl => ?_)
            refine lv_goto (tgt := 154) hx hb dL_texts_247 (by decide) ?_
            exact ih (k + 1) (by omega) _ _ _ _ _ (by omega) (by omega) hP hD hS ls (lv_sub hl [0, 3, 4] rfl)
          · refine lv_t0 (show (kE V.σ k) = 100 from hk7) ?_
            refine lv_istore_n (lv' := [(3, .int 100), (2, .int (nI k)), (1, .int (nI (nE V.σ))), (0, .ref a.aX)]) hx hb dL_texts_164 rfl hl (by decide) rfl (fun ls hl => ?_)
            refine lv_iload_n hx hb dL_texts_165 rfl (lv_at hl 0 rfl) ?_
            refine lv_bipush (v := 116) hx hb dL_texts_166 (by decide) ?_
            refine lv_icmp_eq (tgt := 177) hx hb dL_texts_168 (by decide) (fun c9 => absurd c9 (by decide)) (fun _ => ?_)
            refine lv_iload_n hx hb dL_texts_171 rfl (lv_at hl 0 rfl) ?_
            refine lv_bipush (v := 112) hx hb dL_texts_172 (by decide) ?_
            refine lv_icmp_ne (tgt := 181) hx hb dL_texts_174 (by decide) (fun _ => ?_) (fun c9 => absurd c9 (by decide))
            refine lv_iconst (v := 0) hx hb dL_texts_181 (by decide) ?_
            refine lv_istore (lv' := [(4, .int 0), (3, .int 100), (2, .int (nI k)), (1, .int (nI (nE V.σ))), (0, .ref a.aX)]) hx hb dL_texts_182 hl (by decide) rfl (fun ls hl => ?_)
            refine va_ldcSw hx hb hown (hSK.2.1 15 (by decide)) dL_texts_184 ?_
            refine lv_iload_n hx hb dL_texts_187 rfl (lv_at hl 1 rfl) ?_
            refine lv_i2c (v := 100) hx hb dL_texts_188 (by decide) ?_
            refine m_ro (va_runV S9 (z_ix4 l G cy kS vS) (bigV 1 hts (big_at 42 22 rfl) (big_at 32 16 rfl) (big_at 43 1 rfl) (big_at 42 23 rfl) (big_at 43 0 rfl) rfl rfl (by decide +kernel) ⟨Nat.le_of_ble_eq_true rfl, Nat.le_of_ble_eq_true rfl⟩) ⟨fun b2 U g mk q => ⟨q.1, PJ.blind U g mk b2 q.2⟩, (strI.kept9 (hSK.1.1 15 (by decide)) hS (fun q h => h)).recv, fun U hU hW => ⟨rfl, PJ.at hSK hDZ hS (fr_nil hS hA) hK (m_Ppart hP [] rfl) U hU hW⟩⟩ (g := F0 m _ ls _) rfl rfl hl.1 rfl (lv_room (Nat.le_of_ble_eq_true rfl)) dL_texts_189 ⟨(show _ ≤ 275 by omega), (show _ ≤ 64 * 275 by omega)⟩) ?_
            refine lv_if_lt (tgt := 242) hx hb dL_texts_192 (by decide) (fun c9 => absurd c9 (by decide)) (fun _ => ?_)
            refine lv_aload_n hx hb dL_texts_195 rfl (lv_at hl 4 rfl) ?_
            refine lv_iload_n hx hb dL_texts_196 rfl (lv_at hl 2 rfl) ?_
            refine lq_SW S9 hLF (q_eventBath l G cy kS vS a (OV.mk V.σ V.ρ V.nx V.ct V.LN V.f nb fb) k ho hk9) (bigSW 2 hts (big_at 44 21 rfl) (big_at 0 2 rfl) (big_at 44 23 rfl) (big_at 44 22 rfl) rfl rfl (by decide +kernel) ⟨Nat.le_of_ble_eq_true rfl, Nat.le_of_ble_eq_true rfl⟩) hP hD hS hA rfl hl.1 rfl (Nat.le_of_ble_eq_true rfl) (MC := 275) ⟨rfl, rfl⟩ (4 * d + 12) (by omega) (by omega) dL_texts_197 (fun u H locs cells slots hc hs hP hD hS => ?_)
            refine lv_t0 (show (bE V.σ k) = bE V.σ k from rfl) ?_
            refine lv_t0 (show (bE V.σ k) = nI (bx (bE V.σ k)) from eb) ?_
            refine lv_if_lt (tgt := 242) hx hb dL_texts_200 (by decide) (fun c9 => absurd c9 (ge0_nI (by omega))) (fun _ => ?_)
            refine lv_aload_n hx hb dL_texts_203 rfl (lv_at hl 4 rfl) ?_
            refine lv_iload_n hx hb dL_texts_204 rfl (lv_at hl 2 rfl) ?_
            refine lq_SW S9 hLF (q_eventBath l G cy kS vS a (OV.mk V.σ V.ρ V.nx V.ct V.LN V.f nb fb) k ho hk9) (bigSW 2 hts (big_at 44 21 rfl) (big_at 0 2 rfl) (big_at 44 23 rfl) (big_at 44 22 rfl) rfl rfl (by decide +kernel) ⟨Nat.le_of_ble_eq_true rfl, Nat.le_of_ble_eq_true rfl⟩) hP hD hS hA rfl hl.1 rfl (Nat.le_of_ble_eq_true rfl) (MC := 275) ⟨rfl, rfl⟩ (4 * d + 11) (by omega) (by omega) dL_texts_205 (fun u H locs cells slots hc hs hP hD hS => ?_)
            refine lv_t0 (show (bE V.σ k) = bE V.σ k from rfl) ?_
            refine lv_t0 (show (bE V.σ k) = nI (bx (bE V.σ k)) from eb) ?_
            refine lv_aload_n hx hb dL_texts_208 rfl (lv_at hl 4 rfl) ?_
            refine lq_V S9 hLF (d_bathCount l G cy kS vS a (OV.mk V.σ V.ρ V.nx V.ct V.LN V.f nb fb) ho) (bigV 0 hts (big_at 16 12 rfl) (big_at 0 6 rfl) (big_at 16 15 rfl) (big_at 16 13 rfl) (big_at 16 14 rfl) rfl rfl (by decide +kernel) ⟨Nat.le_of_ble_eq_true rfl, Nat.le_of_ble_eq_true rfl⟩) hP hD hS hA rfl hl.1 rfl (Nat.le_of_ble_eq_true rfl) (MC := 275) ⟨rfl, rfl⟩ (4 * d + 11) (by omega) (by omega) dL_texts_209 (fun u H locs cells slots hc hs hP hD hS => ?_)
            refine lv_t0 (show (nI (nB V.σ)) = nI (nB V.σ) from rfl) ?_
            refine lv_icmp_ge (tgt := 242) hx hb dL_texts_212 (by decide) (fun c9 => absurd c9 (fun z => absurd ((nI_leI (by omega) (by omega)).mp z) (by omega))) (fun _ => ?_)
            refine lv_iload hx hb dL_texts_215 (lv_at hl 0 rfl) ?_
            refine lv_if_eq (tgt := 232) hx hb dL_texts_217 (by decide) (fun _ => ?_) (fun c9 => absurd (by decide) c9)
            refine lv_aload_n hx hb dL_texts_232 rfl (lv_at hl 4 rfl) ?_
            refine lv_iload_n hx hb dL_texts_233 rfl (lv_at hl 2 rfl) ?_
            refine lq_SW S9 hLF (q_eventLitres_2 l G cy kS vS a (OV.mk V.σ V.ρ V.nx V.ct V.LN V.f nb fb) k hl9 ho hk9 hl7) (bigSW 2 hts (big_at 45 5 rfl) (big_at 0 2 rfl) (big_at 45 7 rfl) (big_at 45 6 rfl) rfl rfl (by decide +kernel) ⟨Nat.le_of_ble_eq_true rfl, Nat.le_of_ble_eq_true rfl⟩) hP hD hS hA rfl hl.1 rfl (Nat.le_of_ble_eq_true rfl) (MC := 275) ⟨rfl, rfl⟩ (4 * d + 10) (by omega) (by omega) dL_texts_234 (fun u H locs cells slots hc hs hP hD hS => ?_)
            refine lv_bipush (v := (-13)) hx hb dL_texts_237 (by decide) ?_
            refine lv_icmp_eq (tgt := 244) hx hb dL_texts_239 (by decide) (fun _ => ?_) (fun c9 => absurd (by decide) c9)
            refine lv_iinc (v := nI (k + 1)) (lv' := [(2, .int (nI (k + 1))), (4, .int 0), (3, .int 100), (1, .int (nI (nE V.σ))), (0, .ref a.aX)]) hx hb dL_texts_244 hl (k := 2) rfl (m_inc _) (by decide) rfl (fun ls hl => ?_)
            refine lv_goto (tgt := 154) hx hb dL_texts_247 (by decide) ?_
            exact ih (k + 1) (by omega) _ _ _ _ _ (by omega) (by omega) hP hD hS ls (lv_sub hl [0, 3, 4] rfl)
      exact L154 (nE V.σ) 0 (by omega) _ _ _ _ _ (by omega) (by omega) hP hD hS ls (lv_sub hl [0, 1, 2] rfl)
    | succ d ih =>
      intro k hk u nb fb H locs cells slots hnb hc hs hP hD hS ls hl
      have hk9 : k < nB V.σ := by omega
      have hk5 : k < 5 := by omega
      obtain ⟨ev, ev2⟩ := bx_v hbd hk5
      obtain ⟨er, er2⟩ := bx_r hwt hk5
      have J122 : ∀ (sb : Nat) (vb : Nat) (f : Nat → Int32) (t : List Int32) (u : OU) (H : Heap) (locs : List Loc) (cells slots : Nat), (BTx 16 t f) → (t.length ≤ 14) → (t = rnd V.σ k) → cells + (40 * d + 84) ≤ 275 → slots + 64 * (40 * d + 84) ≤ 64 * 275 → va_P G vwCl (fl [OW cy a (OV.mk V.σ V.ρ V.nx V.ct V.LN V.f nb fb) u, sbW cy sb vb 16 0 t.length f]) H → va_D (va_A (OW cy a V u0) s.heap.size) (fl [OW cy a (OV.mk V.σ V.ρ V.nx V.ct V.LN V.f nb fb) u, sbW cy sb vb 16 0 t.length f]) → va_S (va_A (OW cy a V u0) s.heap.size) s.heap H locs → ∀ ls : Array Slot, lv_has ls 5 [(1, .int (nI k)), (0, .ref a.aX)] → W p l e ({ frames := 15, cells := 275, slots := 64 * 275, locals := 500 } : Room) s m ([.ref a.aX] : List Value).toArray below meth cq H locs cells slots (lxZ below ([.ref a.aX] : List Value).toArray s G cy a V u0 (fun V2 r2 => (V2.σ = V.σ ∧ V2.ρ = V.ρ ∧ V2.nx = V.nx ∧ V2.ct = V.ct ∧ V2.LN = V.LN ∧ V2.f = V.f) ∧ r2 = .int 1) 275) (F0 m 122 ls [.ref sb]) := by
        intro sb vb f t u H locs cells slots hB0 hl0 ht0 hc hs hP hD hS ls hl
        have hP : va_P G vwCl (fl [OW cy a (OV.mk V.σ V.ρ V.nx V.ct V.LN V.f nb fb) u] ++ sbW cy sb vb 16 0 t.length f) H := by rw [fl_snoc]; exact hP
        have hD : va_D (va_A (OW cy a V u0) s.heap.size) (fl [OW cy a (OV.mk V.σ V.ρ V.nx V.ct V.LN V.f nb fb) u] ++ sbW cy sb vb 16 0 t.length f) := by rw [fl_snoc]; exact hD
        have hFw := free_of hD hS hA
        refine lg_run (Wr := [OW cy a (OV.mk V.σ V.ρ V.nx V.ct V.LN V.f nb fb) u]) (va_runV S9 ((s_toStr l G cy kS vS sb vb 0 t f 16 hB0 (show t.length < 16 by have := hl0; omega)) _) (bigV 0 hts (big_at 36 2 rfl) (big_at 1 8 rfl) (big_at 36 5 rfl) (big_at 36 3 rfl) (big_at 36 4 rfl) rfl rfl (by decide +kernel) ⟨Nat.le_of_ble_eq_true rfl, Nat.le_of_ble_eq_true rfl⟩) ⟨fun b2 U g mk q => ⟨q.1, q.2.1, PJ.blind U g mk b2 q.2.2.1, q.2.2.2⟩, va_recv (ci := 1) (q0 := 0) hK.1 (strip_P hP) rfl rfl, fun U hU hW => ⟨rfl, (congrArg Array.size hU), PJ.at hSK hDZ hS hFw hK (strip_P hP) U hU hW, (strip_D hD).weaken (fun _ _ _ _ => trivial)⟩⟩ (g := F0 m _ ls _) rfl rfl hl.1 rfl (lv_room (Nat.le_of_ble_eq_true rfl)) dL_texts_122 ⟨(show _ ≤ 275 by omega), (show _ ≤ 64 * 275 by omega)⟩) hP hD hS hA (MC := 275) (40 * d + 82) 2 (by decide) (by decide) (by omega) (by omega) (fun w9 H locs cells slots hu hc hs hP hD hS => ?_)
        obtain ⟨x1, y2, g3⟩ := w9
        have hg4 := hu
        have hP : va_P G vwCl (fl ([OW cy a (OV.mk V.σ V.ρ V.nx V.ct V.LN V.f nb fb) u] ++ [(sbW cy sb vb 16 0 t.length f) ++ [(x1, .inr (0, [.ref y2, .int 0, .int 0, .int 0])), (y2, .inl (cy 0, t.length, .inl g3))]])) H := hP
        have hD : va_D (va_A (OW cy a V u0) s.heap.size) (fl ([OW cy a (OV.mk V.σ V.ρ V.nx V.ct V.LN V.f nb fb) u] ++ [(sbW cy sb vb 16 0 t.length f) ++ [(x1, .inr (0, [.ref y2, .int 0, .int 0, .int 0])), (y2, .inl (cy 0, t.length, .inl g3))]])) := hD
        rw [fl_two] at hP hD
        have hP : va_P G vwCl (fl [OW cy a (OV.mk V.σ V.ρ V.nx V.ct V.LN V.f nb fb) u, sbW cy sb vb 16 0 t.length f, [(x1, .inr (0, [.ref y2, .int 0, .int 0, .int 0])), (y2, .inl (cy 0, t.length, .inl g3))]]) H := hP
        have hD : va_D (va_A (OW cy a V u0) s.heap.size) (fl [OW cy a (OV.mk V.σ V.ρ V.nx V.ct V.LN V.f nb fb) u, sbW cy sb vb 16 0 t.length f, [(x1, .inr (0, [.ref y2, .int 0, .int 0, .int 0])), (y2, .inl (cy 0, t.length, .inl g3))]]) := hD
        have hP : va_P G vwCl (fl [OW cy a (OV.mk V.σ V.ρ V.nx V.ct V.LN V.f nb fb) u, [(x1, .inr (0, [.ref y2, .int 0, .int 0, .int 0])), (y2, .inl (cy 0, t.length, .inl g3))]]) H := PpartC (Wc := [OW cy a (OV.mk V.σ V.ρ V.nx V.ct V.LN V.f nb fb) u, sbW cy sb vb 16 0 t.length f, [(x1, .inr (0, [.ref y2, .int 0, .int 0, .int 0])), (y2, .inl (cy 0, t.length, .inl g3))]]) hP [0, 2] rfl
        have hD : va_D (va_A (OW cy a V u0) s.heap.size) (fl [OW cy a (OV.mk V.σ V.ρ V.nx V.ct V.LN V.f nb fb) u, [(x1, .inr (0, [.ref y2, .int 0, .int 0, .int 0])), (y2, .inl (cy 0, t.length, .inl g3))]]) := DpartC (Wc := [OW cy a (OV.mk V.σ V.ρ V.nx V.ct V.LN V.f nb fb) u, sbW cy sb vb 16 0 t.length f, [(x1, .inr (0, [.ref y2, .int 0, .int 0, .int 0])), (y2, .inl (cy 0, t.length, .inl g3))]]) hD [0, 2] (by decide) rfl
        refine lv_astore_n (lv' := [(2, .ref x1), (1, .int (nI k)), (0, .ref a.aX)]) hx hb dL_texts_125 rfl hl (by decide) rfl (fun ls hl => ?_)
        refine lv_aload_n hx hb dL_texts_126 rfl (lv_at hl 2 rfl) ?_
        refine lv_aload_n hx hb dL_texts_127 rfl (lv_at hl 2 rfl) ?_
        refine lv_iload_n hx hb dL_texts_128 rfl (lv_at hl 1 rfl) ?_
        obtain ⟨r16, rch⟩ := rnd_ok (σ := V.σ) (j := k) hk5 hwt
        refine lq_SW S9 hLF (q_renderBath l G cy kS vS a (OV.mk V.σ V.ρ V.nx V.ct V.LN V.f nb fb) k ho hk9 hwt hnb) (bigSW 2 hts (big_at 38 6 rfl) (big_at 0 2 rfl) (big_at 38 8 rfl) (big_at 38 7 rfl) rfl rfl (by decide +kernel) ⟨Nat.le_of_ble_eq_true rfl, Nat.le_of_ble_eq_true rfl⟩) hP hD hS hA rfl hl.1 rfl (Nat.le_of_ble_eq_true rfl) (MC := 275) ⟨rfl, rfl⟩ (40 * d + 81) (by omega) (by omega) dL_texts_129 (fun u H locs cells slots hc hs hP hD hS => ?_)
        refine lv_t0 (show (nI (rnd V.σ k).length) = nI (rnd V.σ k).length from rfl) ?_
        have hP : va_P G vwCl (fl [OW cy a (OV.mk V.σ V.ρ V.nx V.ct V.LN V.f (rnd V.σ k).length (wrS fb 0 (rnd V.σ k))) u, [(x1, .inr (0, [.ref y2, .int 0, .int 0, .int 0])), (y2, .inl (cy 0, t.length, .inl g3))]]) H := hP
        have hD : va_D (va_A (OW cy a V u0) s.heap.size) (fl [OW cy a (OV.mk V.σ V.ρ V.nx V.ct V.LN V.f (rnd V.σ k).length (wrS fb 0 (rnd V.σ k))) u, [(x1, .inr (0, [.ref y2, .int 0, .int 0, .int 0])), (y2, .inl (cy 0, t.length, .inl g3))]]) := hD
        refine lv_aload_n hx hb dL_texts_132 rfl (lv_at hl 0 rfl) ?_
        have hP9 : va_P G vwCl (fl [[(x1, .inr (0, [.ref y2, .int 0, .int 0, .int 0])), (y2, .inl (cy 0, t.length, .inl g3))]] ++ OW cy a (OV.mk V.σ V.ρ V.nx V.ct V.LN V.f (rnd V.σ k).length (wrS fb 0 (rnd V.σ k))) u) H := by rw [fl_snoc]; exact PpartC (Wc := [OW cy a (OV.mk V.σ V.ρ V.nx V.ct V.LN V.f (rnd V.σ k).length (wrS fb 0 (rnd V.σ k))) u, [(x1, .inr (0, [.ref y2, .int 0, .int 0, .int 0])), (y2, .inl (cy 0, t.length, .inl g3))]]) hP [1, 0] rfl
        have hD9 : va_D (va_A (OW cy a V u0) s.heap.size) (fl [[(x1, .inr (0, [.ref y2, .int 0, .int 0, .int 0])), (y2, .inl (cy 0, t.length, .inl g3))]] ++ OW cy a (OV.mk V.σ V.ρ V.nx V.ct V.LN V.f (rnd V.σ k).length (wrS fb 0 (rnd V.σ k))) u) := by rw [fl_snoc]; exact DpartC (Wc := [OW cy a (OV.mk V.σ V.ρ V.nx V.ct V.LN V.f (rnd V.σ k).length (wrS fb 0 (rnd V.σ k))) u, [(x1, .inr (0, [.ref y2, .int 0, .int 0, .int 0])), (y2, .inl (cy 0, t.length, .inl g3))]]) hD [1, 0] (by decide) rfl
        have hT9 : strI (rnd V.σ k).length (rnd V.σ k) x1 y2 (va_A (OW cy a (OV.mk V.σ V.ρ V.nx V.ct V.LN V.f (rnd V.σ k).length (wrS fb 0 (rnd V.σ k))) u) H.size) s H := strI.ofC hts hK hP9 hD9 0 rfl (by rw [ht0]) (by omega) (by rw [← ht0]; exact hg4)
        refine ly_S S9 hLF (n_spells l G cy kS vS a (OV.mk V.σ V.ρ V.nx V.ct V.LN V.f (rnd V.σ k).length (wrS fb 0 (rnd V.σ k))) (rnd V.σ k) x1 y2 hl9 rfl r16 (fun i hi => by show wrS fb 0 (rnd V.σ k) i = _; rw [wrS_val, if_pos (by omega), Nat.sub_zero]) (fun i hi => rch _ (getD_mem hi))) (bigS 3 hts (big_at 40 19 rfl) (big_at 0 2 rfl) (big_at 40 21 rfl) (big_at 40 20 rfl) rfl rfl (by decide +kernel) ⟨Nat.le_of_ble_eq_true rfl, Nat.le_of_ble_eq_true rfl⟩) EX.blind (EX.at hT9) hP hD hS hA rfl hl.1 rfl (Nat.le_of_ble_eq_true rfl) (MC := 275) ⟨rfl, rfl⟩ (40 * d + 61) (by omega) (by omega) dL_texts_133 (fun V2 r2 u H locs cells slots hR hc hs hP hD hS => ?_)
        obtain ⟨e1, e2⟩ := hR
        subst e1
        subst e2
        refine lv_if_ne (tgt := 141) hx hb dL_texts_136 (by decide) (fun _ => ?_) (fun c9 => absurd c9 (by decide))
        refine lv_iinc (v := nI (k + 1)) (lv' := [(1, .int (nI (k + 1))), (2, .ref x1), (0, .ref a.aX)]) hx hb dL_texts_141 hl (k := 1) rfl (m_inc _) (by decide) rfl (fun ls hl => ?_)
        refine lv_goto (tgt := 2) hx hb dL_texts_144 (by decide) ?_
        have hP : va_P G vwCl (fl [OW cy a (OV.mk V.σ V.ρ V.nx V.ct V.LN V.f (rnd V.σ k).length (wrS fb 0 (rnd V.σ k))) u]) H := PpartC (Wc := [OW cy a (OV.mk V.σ V.ρ V.nx V.ct V.LN V.f (rnd V.σ k).length (wrS fb 0 (rnd V.σ k))) u, [(x1, .inr (0, [.ref y2, .int 0, .int 0, .int 0])), (y2, .inl (cy 0, t.length, .inl g3))]]) hP [0] rfl
        have hD : va_D (va_A (OW cy a V u0) s.heap.size) (fl [OW cy a (OV.mk V.σ V.ρ V.nx V.ct V.LN V.f (rnd V.σ k).length (wrS fb 0 (rnd V.σ k))) u]) := DpartC (Wc := [OW cy a (OV.mk V.σ V.ρ V.nx V.ct V.LN V.f (rnd V.σ k).length (wrS fb 0 (rnd V.σ k))) u, [(x1, .inr (0, [.ref y2, .int 0, .int 0, .int 0])), (y2, .inl (cy 0, t.length, .inl g3))]]) hD [0] (by decide) rfl
        exact ih (k + 1) (by omega) _ ((rnd V.σ k).length) (wrS fb 0 (rnd V.σ k)) _ _ _ _ r16 (by omega) (by omega) hP hD hS ls (lv_sub hl [0, 2] rfl)
      have J102 : ∀ (sb : Nat) (vb : Nat) (f : Nat → Int32) (t : List Int32) (u : OU) (H : Heap) (locs : List Loc) (cells slots : Nat), (BTx 16 t f) → (t.length ≤ 13) → (t = dgs k ++ [58] ++ dgs (bx (vB V.σ k)) ++ [108] ++ (if wet (vB V.σ) k = true then dgs (bx (rdeg (hB V.σ k) (vB V.σ k))) ++ [67] else []) ++ [if pB V.σ k = 0 then 45 else 43]) → cells + (40 * d + 85) ≤ 275 → slots + 64 * (40 * d + 85) ≤ 64 * 275 → va_P G vwCl (fl [OW cy a (OV.mk V.σ V.ρ V.nx V.ct V.LN V.f nb fb) u, sbW cy sb vb 16 0 t.length f]) H → va_D (va_A (OW cy a V u0) s.heap.size) (fl [OW cy a (OV.mk V.σ V.ρ V.nx V.ct V.LN V.f nb fb) u, sbW cy sb vb 16 0 t.length f]) → va_S (va_A (OW cy a V u0) s.heap.size) s.heap H locs → ∀ ls : Array Slot, lv_has ls 5 [(1, .int (nI k)), (0, .ref a.aX)] → W p l e ({ frames := 15, cells := 275, slots := 64 * 275, locals := 500 } : Room) s m ([.ref a.aX] : List Value).toArray below meth cq H locs cells slots (lxZ below ([.ref a.aX] : List Value).toArray s G cy a V u0 (fun V2 r2 => (V2.σ = V.σ ∧ V2.ρ = V.ρ ∧ V2.nx = V.nx ∧ V2.ct = V.ct ∧ V2.LN = V.LN ∧ V2.f = V.f) ∧ r2 = .int 1) 275) (F0 m 102 ls [.ref sb]) := by
        intro sb vb f t u H locs cells slots hB0 hl0 ht0 hc hs hP hD hS ls hl
        refine lv_aload_n hx hb dL_texts_102 rfl (lv_at hl 1 rfl) ?_
        refine lv_iload_n hx hb dL_texts_103 rfl (lv_at hl 0 rfl) ?_
        refine lq_V S9 hLF (d_isMember l G cy kS vS a (OV.mk V.σ V.ρ V.nx V.ct V.LN V.f nb fb) k ho hk9) (bigV 1 hts (big_at 17 11 rfl) (big_at 0 6 rfl) (big_at 17 14 rfl) (big_at 17 12 rfl) (big_at 17 13 rfl) rfl rfl (by decide +kernel) ⟨Nat.le_of_ble_eq_true rfl, Nat.le_of_ble_eq_true rfl⟩) hP hD hS hA rfl hl.1 rfl (Nat.le_of_ble_eq_true rfl) (MC := 275) ⟨rfl, rfl⟩ (40 * d + 85) (by omega) (by omega) dL_texts_104 (fun u H locs cells slots hc hs hP hD hS => ?_)
        refine lv_t0 (show (mB V.σ k) = mB V.σ k from rfl) ?_
        by_cases m9 : mB V.σ k = 0
        · refine lv_if_eq (tgt := 116) hx hb dL_texts_107 (by decide) (fun _ => ?_) (fun c9 => absurd m9 c9)
          refine va_ldcSw hx hb hown (hSK.2.1 11 (by decide)) dL_texts_116 ?_
          have hP : va_P G vwCl (fl [OW cy a (OV.mk V.σ V.ρ V.nx V.ct V.LN V.f nb fb) u] ++ sbW cy sb vb 16 0 t.length f) H := by rw [fl_snoc]; exact hP
          have hD : va_D (va_A (OW cy a V u0) s.heap.size) (fl [OW cy a (OV.mk V.σ V.ρ V.nx V.ct V.LN V.f nb fb) u] ++ sbW cy sb vb 16 0 t.length f) := by rw [fl_snoc]; exact hD
          have hFw := free_of hD hS hA
          refine lg_run (Wr := [OW cy a (OV.mk V.σ V.ρ V.nx V.ct V.LN V.f nb fb) u]) (va_runV S9 ((s_appS l G cy kS vS sb vb 0 t f 16 (ltS 11) (kS 11) (vS 11) (by decide) (by unfold FB; decide) hB0 (show t.length + (ltS 11).length ≤ 34 by have := hl0; have : (ltS 11).length = 0 := (by decide); omega)) _) (bigV 1 hts (big_at 33 9 rfl) (big_at 1 8 rfl) (big_at 33 12 rfl) (big_at 33 10 rfl) (big_at 33 11 rfl) rfl rfl (by decide +kernel) ⟨Nat.le_of_ble_eq_true rfl, Nat.le_of_ble_eq_true rfl⟩) ⟨fun b2 U g mk q => ⟨q.1, q.2.1, PTx.blind U g mk b2 q.2.2.1, q.2.2.2⟩, va_recv (ci := 1) (q0 := 0) hK.1 (strip_P hP) rfl rfl, fun U hU hW => ⟨rfl, (congrArg Array.size hU), PTx.at (strI.kept9 (hSK.1.1 11 (by decide)) hS hFw) hSK hDZ hS hFw hK (strip_P hP) U hU hW, (strip_D hD).weaken (fun _ _ _ _ => trivial)⟩⟩ (g := F0 m _ ls _) rfl rfl hl.1 rfl (lv_room (Nat.le_of_ble_eq_true rfl)) dL_texts_119 ⟨(show _ ≤ 275 by omega), (show _ ≤ 64 * 275 by omega)⟩) hP hD hS hA (MC := 275) (40 * d + 84) 1 (by decide) (by decide) (by omega) (by omega) (fun w9 H locs cells slots hu hc hs hP hD hS => ?_)
          obtain ⟨vb5, mm6, f7⟩ := w9
          obtain ⟨hB8, e9⟩ := hu
          have e9 : mm6 = 16 := e9 rfl (show t.length + (ltS 11).length ≤ 16 by have := hl0; have : (ltS 11).length = 0 := (by decide); omega)
          subst e9
          have hP : va_P G vwCl (fl [OW cy a (OV.mk V.σ V.ρ V.nx V.ct V.LN V.f nb fb) u, sbW cy sb vb5 16 0 (t ++ (ltS 11)).length f7]) H := hP
          have hD : va_D (va_A (OW cy a V u0) s.heap.size) (fl [OW cy a (OV.mk V.σ V.ρ V.nx V.ct V.LN V.f nb fb) u, sbW cy sb vb5 16 0 (t ++ (ltS 11)).length f7]) := hD
          have hl9 : (t ++ (ltS 11)).length ≤ 13 := by rw [List.length_append]; have := hl0; have : (ltS 11).length = 0 := (by decide); omega
          obtain ⟨t10, qt10⟩ : ∃ z : List Int32, z = (t ++ (ltS 11)) := ⟨_, rfl⟩
          rw [← qt10] at hP hD hB8 hl9
          exact J122 sb vb5 f7 t10 _ _ _ _ _ hB8 (by have := hl9; omega) (by rw [qt10, ht0]; unfold rnd; rw [if_pos m9]; rfl) (by omega) (by omega) hP hD hS ls (lv_sub hl [0, 1] rfl)
        · refine lv_if_eq (tgt := 116) hx hb dL_texts_107 (by decide) (fun c9 => absurd c9 m9) (fun _ => ?_)
          refine va_ldcSw hx hb hown (hSK.2.1 14 (by decide)) dL_texts_110 ?_
          refine lv_goto (tgt := 119) hx hb dL_texts_113 (by decide) ?_
          have hP : va_P G vwCl (fl [OW cy a (OV.mk V.σ V.ρ V.nx V.ct V.LN V.f nb fb) u] ++ sbW cy sb vb 16 0 t.length f) H := by rw [fl_snoc]; exact hP
          have hD : va_D (va_A (OW cy a V u0) s.heap.size) (fl [OW cy a (OV.mk V.σ V.ρ V.nx V.ct V.LN V.f nb fb) u] ++ sbW cy sb vb 16 0 t.length f) := by rw [fl_snoc]; exact hD
          have hFw := free_of hD hS hA
          refine lg_run (Wr := [OW cy a (OV.mk V.σ V.ρ V.nx V.ct V.LN V.f nb fb) u]) (va_runV S9 ((s_appS l G cy kS vS sb vb 0 t f 16 (ltS 14) (kS 14) (vS 14) (by decide) (by unfold FB; decide) hB0 (show t.length + (ltS 14).length ≤ 34 by have := hl0; have : (ltS 14).length = 1 := (by decide); omega)) _) (bigV 1 hts (big_at 33 9 rfl) (big_at 1 8 rfl) (big_at 33 12 rfl) (big_at 33 10 rfl) (big_at 33 11 rfl) rfl rfl (by decide +kernel) ⟨Nat.le_of_ble_eq_true rfl, Nat.le_of_ble_eq_true rfl⟩) ⟨fun b2 U g mk q => ⟨q.1, q.2.1, PTx.blind U g mk b2 q.2.2.1, q.2.2.2⟩, va_recv (ci := 1) (q0 := 0) hK.1 (strip_P hP) rfl rfl, fun U hU hW => ⟨rfl, (congrArg Array.size hU), PTx.at (strI.kept9 (hSK.1.1 14 (by decide)) hS hFw) hSK hDZ hS hFw hK (strip_P hP) U hU hW, (strip_D hD).weaken (fun _ _ _ _ => trivial)⟩⟩ (g := F0 m _ ls _) rfl rfl hl.1 rfl (lv_room (Nat.le_of_ble_eq_true rfl)) dL_texts_119 ⟨(show _ ≤ 275 by omega), (show _ ≤ 64 * 275 by omega)⟩) hP hD hS hA (MC := 275) (40 * d + 84) 1 (by decide) (by decide) (by omega) (by omega) (fun w9 H locs cells slots hu hc hs hP hD hS => ?_)
          obtain ⟨vb11, mm12, f13⟩ := w9
          obtain ⟨hB14, e9⟩ := hu
          have e9 : mm12 = 16 := e9 rfl (show t.length + (ltS 14).length ≤ 16 by have := hl0; have : (ltS 14).length = 1 := (by decide); omega)
          subst e9
          have hP : va_P G vwCl (fl [OW cy a (OV.mk V.σ V.ρ V.nx V.ct V.LN V.f nb fb) u, sbW cy sb vb11 16 0 (t ++ (ltS 14)).length f13]) H := hP
          have hD : va_D (va_A (OW cy a V u0) s.heap.size) (fl [OW cy a (OV.mk V.σ V.ρ V.nx V.ct V.LN V.f nb fb) u, sbW cy sb vb11 16 0 (t ++ (ltS 14)).length f13]) := hD
          have hl15 : (t ++ (ltS 14)).length ≤ 14 := by rw [List.length_append]; have := hl0; have : (ltS 14).length = 1 := (by decide); omega
          obtain ⟨t16, qt16⟩ : ∃ z : List Int32, z = (t ++ (ltS 14)) := ⟨_, rfl⟩
          rw [← qt16] at hP hD hB14 hl15
          exact J122 sb vb11 f13 t16 _ _ _ _ _ hB14 (by have := hl15; omega) (by rw [qt16, ht0]; unfold rnd; rw [if_neg m9]; rfl) (by omega) (by omega) hP hD hS ls (lv_sub hl [0, 1] rfl)
      have J82 : ∀ (sb : Nat) (vb : Nat) (f : Nat → Int32) (t : List Int32) (u : OU) (H : Heap) (locs : List Loc) (cells slots : Nat), (BTx 16 t f) → (t.length ≤ 12) → (t = dgs k ++ [58] ++ dgs (bx (vB V.σ k)) ++ [108] ++ (if wet (vB V.σ) k = true then dgs (bx (rdeg (hB V.σ k) (vB V.σ k))) ++ [67] else [])) → cells + (40 * d + 86) ≤ 275 → slots + 64 * (40 * d + 86) ≤ 64 * 275 → va_P G vwCl (fl [OW cy a (OV.mk V.σ V.ρ V.nx V.ct V.LN V.f nb fb) u, sbW cy sb vb 16 0 t.length f]) H → va_D (va_A (OW cy a V u0) s.heap.size) (fl [OW cy a (OV.mk V.σ V.ρ V.nx V.ct V.LN V.f nb fb) u, sbW cy sb vb 16 0 t.length f]) → va_S (va_A (OW cy a V u0) s.heap.size) s.heap H locs → ∀ ls : Array Slot, lv_has ls 5 [(1, .int (nI k)), (0, .ref a.aX)] → W p l e ({ frames := 15, cells := 275, slots := 64 * 275, locals := 500 } : Room) s m ([.ref a.aX] : List Value).toArray below meth cq H locs cells slots (lxZ below ([.ref a.aX] : List Value).toArray s G cy a V u0 (fun V2 r2 => (V2.σ = V.σ ∧ V2.ρ = V.ρ ∧ V2.nx = V.nx ∧ V2.ct = V.ct ∧ V2.LN = V.LN ∧ V2.f = V.f) ∧ r2 = .int 1) 275) (F0 m 82 ls [.ref sb]) := by
        intro sb vb f t u H locs cells slots hB0 hl0 ht0 hc hs hP hD hS ls hl
        refine lv_aload_n hx hb dL_texts_82 rfl (lv_at hl 1 rfl) ?_
        refine lv_iload_n hx hb dL_texts_83 rfl (lv_at hl 0 rfl) ?_
        refine lq_V S9 hLF (d_isPlugged l G cy kS vS a (OV.mk V.σ V.ρ V.nx V.ct V.LN V.f nb fb) k ho hk9) (bigV 1 hts (big_at 17 7 rfl) (big_at 0 6 rfl) (big_at 17 10 rfl) (big_at 17 8 rfl) (big_at 17 9 rfl) rfl rfl (by decide +kernel) ⟨Nat.le_of_ble_eq_true rfl, Nat.le_of_ble_eq_true rfl⟩) hP hD hS hA rfl hl.1 rfl (Nat.le_of_ble_eq_true rfl) (MC := 275) ⟨rfl, rfl⟩ (40 * d + 86) (by omega) (by omega) dL_texts_84 (fun u H locs cells slots hc hs hP hD hS => ?_)
        refine lv_t0 (show (pB V.σ k) = pB V.σ k from rfl) ?_
        by_cases p9 : pB V.σ k = 0
        · refine lv_if_eq (tgt := 96) hx hb dL_texts_87 (by decide) (fun _ => ?_) (fun c9 => absurd p9 c9)
          refine va_ldcSw hx hb hown (hSK.2.1 13 (by decide)) dL_texts_96 ?_
          have hP : va_P G vwCl (fl [OW cy a (OV.mk V.σ V.ρ V.nx V.ct V.LN V.f nb fb) u] ++ sbW cy sb vb 16 0 t.length f) H := by rw [fl_snoc]; exact hP
          have hD : va_D (va_A (OW cy a V u0) s.heap.size) (fl [OW cy a (OV.mk V.σ V.ρ V.nx V.ct V.LN V.f nb fb) u] ++ sbW cy sb vb 16 0 t.length f) := by rw [fl_snoc]; exact hD
          have hFw := free_of hD hS hA
          refine lg_run (Wr := [OW cy a (OV.mk V.σ V.ρ V.nx V.ct V.LN V.f nb fb) u]) (va_runV S9 ((s_appS l G cy kS vS sb vb 0 t f 16 (ltS 13) (kS 13) (vS 13) (by decide) (by unfold FB; decide) hB0 (show t.length + (ltS 13).length ≤ 34 by have := hl0; have : (ltS 13).length = 1 := (by decide); omega)) _) (bigV 1 hts (big_at 33 9 rfl) (big_at 1 8 rfl) (big_at 33 12 rfl) (big_at 33 10 rfl) (big_at 33 11 rfl) rfl rfl (by decide +kernel) ⟨Nat.le_of_ble_eq_true rfl, Nat.le_of_ble_eq_true rfl⟩) ⟨fun b2 U g mk q => ⟨q.1, q.2.1, PTx.blind U g mk b2 q.2.2.1, q.2.2.2⟩, va_recv (ci := 1) (q0 := 0) hK.1 (strip_P hP) rfl rfl, fun U hU hW => ⟨rfl, (congrArg Array.size hU), PTx.at (strI.kept9 (hSK.1.1 13 (by decide)) hS hFw) hSK hDZ hS hFw hK (strip_P hP) U hU hW, (strip_D hD).weaken (fun _ _ _ _ => trivial)⟩⟩ (g := F0 m _ ls _) rfl rfl hl.1 rfl (lv_room (Nat.le_of_ble_eq_true rfl)) dL_texts_99 ⟨(show _ ≤ 275 by omega), (show _ ≤ 64 * 275 by omega)⟩) hP hD hS hA (MC := 275) (40 * d + 85) 1 (by decide) (by decide) (by omega) (by omega) (fun w9 H locs cells slots hu hc hs hP hD hS => ?_)
          obtain ⟨vb17, mm18, f19⟩ := w9
          obtain ⟨hB20, e9⟩ := hu
          have e9 : mm18 = 16 := e9 rfl (show t.length + (ltS 13).length ≤ 16 by have := hl0; have : (ltS 13).length = 1 := (by decide); omega)
          subst e9
          have hP : va_P G vwCl (fl [OW cy a (OV.mk V.σ V.ρ V.nx V.ct V.LN V.f nb fb) u, sbW cy sb vb17 16 0 (t ++ (ltS 13)).length f19]) H := hP
          have hD : va_D (va_A (OW cy a V u0) s.heap.size) (fl [OW cy a (OV.mk V.σ V.ρ V.nx V.ct V.LN V.f nb fb) u, sbW cy sb vb17 16 0 (t ++ (ltS 13)).length f19]) := hD
          have hl21 : (t ++ (ltS 13)).length ≤ 13 := by rw [List.length_append]; have := hl0; have : (ltS 13).length = 1 := (by decide); omega
          obtain ⟨t22, qt22⟩ : ∃ z : List Int32, z = (t ++ (ltS 13)) := ⟨_, rfl⟩
          rw [← qt22] at hP hD hB20 hl21
          exact J102 sb vb17 f19 t22 _ _ _ _ _ hB20 (by have := hl21; omega) (by rw [qt22, ht0, if_pos p9]; rfl) (by omega) (by omega) hP hD hS ls (lv_sub hl [0, 1] rfl)
        · refine lv_if_eq (tgt := 96) hx hb dL_texts_87 (by decide) (fun c9 => absurd c9 p9) (fun _ => ?_)
          refine va_ldcSw hx hb hown (hSK.2.1 12 (by decide)) dL_texts_90 ?_
          refine lv_goto (tgt := 99) hx hb dL_texts_93 (by decide) ?_
          have hP : va_P G vwCl (fl [OW cy a (OV.mk V.σ V.ρ V.nx V.ct V.LN V.f nb fb) u] ++ sbW cy sb vb 16 0 t.length f) H := by rw [fl_snoc]; exact hP
          have hD : va_D (va_A (OW cy a V u0) s.heap.size) (fl [OW cy a (OV.mk V.σ V.ρ V.nx V.ct V.LN V.f nb fb) u] ++ sbW cy sb vb 16 0 t.length f) := by rw [fl_snoc]; exact hD
          have hFw := free_of hD hS hA
          refine lg_run (Wr := [OW cy a (OV.mk V.σ V.ρ V.nx V.ct V.LN V.f nb fb) u]) (va_runV S9 ((s_appS l G cy kS vS sb vb 0 t f 16 (ltS 12) (kS 12) (vS 12) (by decide) (by unfold FB; decide) hB0 (show t.length + (ltS 12).length ≤ 34 by have := hl0; have : (ltS 12).length = 1 := (by decide); omega)) _) (bigV 1 hts (big_at 33 9 rfl) (big_at 1 8 rfl) (big_at 33 12 rfl) (big_at 33 10 rfl) (big_at 33 11 rfl) rfl rfl (by decide +kernel) ⟨Nat.le_of_ble_eq_true rfl, Nat.le_of_ble_eq_true rfl⟩) ⟨fun b2 U g mk q => ⟨q.1, q.2.1, PTx.blind U g mk b2 q.2.2.1, q.2.2.2⟩, va_recv (ci := 1) (q0 := 0) hK.1 (strip_P hP) rfl rfl, fun U hU hW => ⟨rfl, (congrArg Array.size hU), PTx.at (strI.kept9 (hSK.1.1 12 (by decide)) hS hFw) hSK hDZ hS hFw hK (strip_P hP) U hU hW, (strip_D hD).weaken (fun _ _ _ _ => trivial)⟩⟩ (g := F0 m _ ls _) rfl rfl hl.1 rfl (lv_room (Nat.le_of_ble_eq_true rfl)) dL_texts_99 ⟨(show _ ≤ 275 by omega), (show _ ≤ 64 * 275 by omega)⟩) hP hD hS hA (MC := 275) (40 * d + 85) 1 (by decide) (by decide) (by omega) (by omega) (fun w9 H locs cells slots hu hc hs hP hD hS => ?_)
          obtain ⟨vb23, mm24, f25⟩ := w9
          obtain ⟨hB26, e9⟩ := hu
          have e9 : mm24 = 16 := e9 rfl (show t.length + (ltS 12).length ≤ 16 by have := hl0; have : (ltS 12).length = 1 := (by decide); omega)
          subst e9
          have hP : va_P G vwCl (fl [OW cy a (OV.mk V.σ V.ρ V.nx V.ct V.LN V.f nb fb) u, sbW cy sb vb23 16 0 (t ++ (ltS 12)).length f25]) H := hP
          have hD : va_D (va_A (OW cy a V u0) s.heap.size) (fl [OW cy a (OV.mk V.σ V.ρ V.nx V.ct V.LN V.f nb fb) u, sbW cy sb vb23 16 0 (t ++ (ltS 12)).length f25]) := hD
          have hl27 : (t ++ (ltS 12)).length ≤ 13 := by rw [List.length_append]; have := hl0; have : (ltS 12).length = 1 := (by decide); omega
          obtain ⟨t28, qt28⟩ : ∃ z : List Int32, z = (t ++ (ltS 12)) := ⟨_, rfl⟩
          rw [← qt28] at hP hD hB26 hl27
          exact J102 sb vb23 f25 t28 _ _ _ _ _ hB26 (by have := hl27; omega) (by rw [qt28, ht0, if_neg p9]; rfl) (by omega) (by omega) hP hD hS ls (lv_sub hl [0, 1] rfl)
      refine lv_iload_n hx hb dL_texts_2 rfl (lv_at hl 0 rfl) ?_
      refine lv_aload_n hx hb dL_texts_3 rfl (lv_at hl 1 rfl) ?_
      refine lq_V S9 hLF (d_bathCount l G cy kS vS a (OV.mk V.σ V.ρ V.nx V.ct V.LN V.f nb fb) ho) (bigV 0 hts (big_at 16 12 rfl) (big_at 0 6 rfl) (big_at 16 15 rfl) (big_at 16 13 rfl) (big_at 16 14 rfl) rfl rfl (by decide +kernel) ⟨Nat.le_of_ble_eq_true rfl, Nat.le_of_ble_eq_true rfl⟩) hP hD hS hA rfl hl.1 rfl (Nat.le_of_ble_eq_true rfl) (MC := 275) ⟨rfl, rfl⟩ (40 * d + 100) (by omega) (by omega) dL_texts_4 (fun u H locs cells slots hc hs hP hD hS => ?_)
      refine lv_t0 (show (nI (nB V.σ)) = nI (nB V.σ) from rfl) ?_
      refine lv_icmp_ge (tgt := 147) hx hb dL_texts_7 (by decide) (fun c9 => absurd c9 (fun q => absurd ((nI_leI (by omega) (by omega)).mp q) (by omega))) (fun _ => ?_)
      refine va_new (ci := 1) (fs := [.null, .int 0, .int 0, .int 0]) (C := RJ4) (T := TJ4) (N := 4) hx hb hts hi_J4 tyJ4 tyJ4_ok hown (hts _ (big_at 29 13 rfl)) (hts _ (big_at 1 7 rfl)) (hts _ (big_at 1 8 rfl)) hK.1 hP hD hS hA rfl (fun j hj => by rcases (show j = 0 ∨ j = 1 ∨ j = 2 ∨ j = 3 by omega) with rfl | rfl | rfl | rfl <;> rfl) (show _ ≤ 275 by omega) (show _ ≤ 64 * 275 by omega) dL_texts_10 (fun sb29 H hP hD hS => ?_)
      refine lv_dup hx hb dL_texts_13 rfl ?_
      have hFw := free_of hD hS hA
      refine lg_run (Wr := [OW cy a (OV.mk V.σ V.ρ V.nx V.ct V.LN V.f nb fb) u]) (va_runI S9 ((GR.ofNW (c_J4_init_da8c8 l G cy sb29) sub_J4_init_da8c8) _) (bigI 0 hts (big_at 29 14 rfl) (big_at 1 8 rfl) (big_at 4 15 rfl) (big_at 4 14 rfl) rfl rfl rfl (by decide +kernel) ⟨Nat.le_of_ble_eq_true rfl, Nat.le_of_ble_eq_true rfl⟩) ⟨fun b2 U g mk q => ⟨q.1, q.2.1, PN.blind U g mk b2 q.2.2.1, q.2.2.2⟩, fun U hU hW => ⟨rfl, (congrArg Array.size hU), PN.at hK hLF.2.2.2.2.2.2 hSK.2.2.1 hS hFw (strip_P hP) U hU hW, (strip_D hD).weaken (fun _ _ _ _ => trivial)⟩⟩ (g := F0 m _ ls _) rfl rfl hl.1 rfl (lv_room (Nat.le_of_ble_eq_true rfl)) dL_texts_14 ⟨(show _ ≤ 275 by omega), (show _ ≤ 64 * 275 by omega)⟩) hP hD hS hA (MC := 275) (40 * d + 98) 1 (by decide) (by decide) (by omega) (by omega) (fun v30 H locs cells slots _ hc hs hP hD hS => ?_)
      have hP : va_P G vwCl (fl [OW cy a (OV.mk V.σ V.ρ V.nx V.ct V.LN V.f nb fb) u, sbW cy sb29 (v30 1) 16 0 ([] : List Int32).length (fun _ => 0)]) H := hP
      have hD : va_D (va_A (OW cy a V u0) s.heap.size) (fl [OW cy a (OV.mk V.σ V.ρ V.nx V.ct V.LN V.f nb fb) u, sbW cy sb29 (v30 1) 16 0 ([] : List Int32).length (fun _ => 0)]) := hD
      refine lv_iload_n hx hb dL_texts_17 rfl (lv_at hl 0 rfl) ?_
      have hP : va_P G vwCl (fl [OW cy a (OV.mk V.σ V.ρ V.nx V.ct V.LN V.f nb fb) u] ++ sbW cy sb29 (v30 1) 16 0 ([] : List Int32).length (fun _ => 0)) H := by rw [fl_snoc]; exact hP
      have hD : va_D (va_A (OW cy a V u0) s.heap.size) (fl [OW cy a (OV.mk V.σ V.ρ V.nx V.ct V.LN V.f nb fb) u] ++ sbW cy sb29 (v30 1) 16 0 ([] : List Int32).length (fun _ => 0)) := by rw [fl_snoc]; exact hD
      have hFw := free_of hD hS hA
      refine lg_run (Wr := [OW cy a (OV.mk V.σ V.ρ V.nx V.ct V.LN V.f nb fb) u]) (va_runV S9 ((z_appN l G cy kS vS sb29 (v30 1) 0 ([] : List Int32) (fun _ => 0) k BTx.nil (by omega) (show ([] : List Int32).length + 3 ≤ 16 by have := (show ([] : List Int32).length ≤ 0 from Nat.le_refl 0); omega)) _) (bigV 1 hts (big_at 29 15 rfl) (big_at 1 8 rfl) (big_at 29 18 rfl) (big_at 29 16 rfl) (big_at 29 17 rfl) rfl rfl (by decide +kernel) ⟨Nat.le_of_ble_eq_true rfl, Nat.le_of_ble_eq_true rfl⟩) ⟨fun b2 U g mk q => ⟨q.1, q.2.1, PJ.blind U g mk b2 q.2.2.1, q.2.2.2⟩, va_recv (ci := 1) (q0 := 0) hK.1 (strip_P hP) rfl rfl, fun U hU hW => ⟨rfl, (congrArg Array.size hU), PJ.at hSK hDZ hS hFw hK (strip_P hP) U hU hW, (strip_D hD).weaken (fun _ _ _ _ => trivial)⟩⟩ (g := F0 m _ ls _) rfl rfl hl.1 rfl (lv_room (Nat.le_of_ble_eq_true rfl)) dL_texts_18 ⟨(show _ ≤ 275 by omega), (show _ ≤ 64 * 275 by omega)⟩) hP hD hS hA (MC := 275) (40 * d + 97) 1 (by decide) (by decide) (by omega) (by omega) (fun w9 H locs cells slots hu hc hs hP hD hS => ?_)
      obtain ⟨vb31, mm32, f33⟩ := w9
      obtain ⟨hB34, e9⟩ := hu
      have e9 : mm32 = 16 := e9
      subst e9
      have hP : va_P G vwCl (fl [OW cy a (OV.mk V.σ V.ρ V.nx V.ct V.LN V.f nb fb) u, sbW cy sb29 vb31 16 0 (([] : List Int32) ++ dgs k).length f33]) H := hP
      have hD : va_D (va_A (OW cy a V u0) s.heap.size) (fl [OW cy a (OV.mk V.σ V.ρ V.nx V.ct V.LN V.f nb fb) u, sbW cy sb29 vb31 16 0 (([] : List Int32) ++ dgs k).length f33]) := hD
      have hl35 : (([] : List Int32) ++ dgs k).length ≤ 3 := by rw [List.length_append]; have := (show ([] : List Int32).length ≤ 0 from Nat.le_refl 0); have := dgs_len (k := k); omega
      obtain ⟨t36, qt36⟩ : ∃ z : List Int32, z = (([] : List Int32) ++ dgs k) := ⟨_, rfl⟩
      rw [← qt36] at hP hD hB34 hl35
      refine va_ldcSw hx hb hown (hSK.2.1 8 (by decide)) dL_texts_21 ?_
      have hP : va_P G vwCl (fl [OW cy a (OV.mk V.σ V.ρ V.nx V.ct V.LN V.f nb fb) u] ++ sbW cy sb29 vb31 16 0 t36.length f33) H := by rw [fl_snoc]; exact hP
      have hD : va_D (va_A (OW cy a V u0) s.heap.size) (fl [OW cy a (OV.mk V.σ V.ρ V.nx V.ct V.LN V.f nb fb) u] ++ sbW cy sb29 vb31 16 0 t36.length f33) := by rw [fl_snoc]; exact hD
      have hFw := free_of hD hS hA
      refine lg_run (Wr := [OW cy a (OV.mk V.σ V.ρ V.nx V.ct V.LN V.f nb fb) u]) (va_runV S9 ((s_appS l G cy kS vS sb29 vb31 0 t36 f33 16 (ltS 8) (kS 8) (vS 8) (by decide) (by unfold FB; decide) hB34 (show t36.length + (ltS 8).length ≤ 34 by have := hl35; have : (ltS 8).length = 1 := (by decide); omega)) _) (bigV 1 hts (big_at 33 9 rfl) (big_at 1 8 rfl) (big_at 33 12 rfl) (big_at 33 10 rfl) (big_at 33 11 rfl) rfl rfl (by decide +kernel) ⟨Nat.le_of_ble_eq_true rfl, Nat.le_of_ble_eq_true rfl⟩) ⟨fun b2 U g mk q => ⟨q.1, q.2.1, PTx.blind U g mk b2 q.2.2.1, q.2.2.2⟩, va_recv (ci := 1) (q0 := 0) hK.1 (strip_P hP) rfl rfl, fun U hU hW => ⟨rfl, (congrArg Array.size hU), PTx.at (strI.kept9 (hSK.1.1 8 (by decide)) hS hFw) hSK hDZ hS hFw hK (strip_P hP) U hU hW, (strip_D hD).weaken (fun _ _ _ _ => trivial)⟩⟩ (g := F0 m _ ls _) rfl rfl hl.1 rfl (lv_room (Nat.le_of_ble_eq_true rfl)) dL_texts_24 ⟨(show _ ≤ 275 by omega), (show _ ≤ 64 * 275 by omega)⟩) hP hD hS hA (MC := 275) (40 * d + 96) 1 (by decide) (by decide) (by omega) (by omega) (fun w9 H locs cells slots hu hc hs hP hD hS => ?_)
      obtain ⟨vb37, mm38, f39⟩ := w9
      obtain ⟨hB40, e9⟩ := hu
      have e9 : mm38 = 16 := e9 rfl (show t36.length + (ltS 8).length ≤ 16 by have := hl35; have : (ltS 8).length = 1 := (by decide); omega)
      subst e9
      have hP : va_P G vwCl (fl [OW cy a (OV.mk V.σ V.ρ V.nx V.ct V.LN V.f nb fb) u, sbW cy sb29 vb37 16 0 (t36 ++ (ltS 8)).length f39]) H := hP
      have hD : va_D (va_A (OW cy a V u0) s.heap.size) (fl [OW cy a (OV.mk V.σ V.ρ V.nx V.ct V.LN V.f nb fb) u, sbW cy sb29 vb37 16 0 (t36 ++ (ltS 8)).length f39]) := hD
      have hl41 : (t36 ++ (ltS 8)).length ≤ 4 := by rw [List.length_append]; have := hl35; have : (ltS 8).length = 1 := (by decide); omega
      obtain ⟨t42, qt42⟩ : ∃ z : List Int32, z = (t36 ++ (ltS 8)) := ⟨_, rfl⟩
      rw [← qt42] at hP hD hB40 hl41
      refine lv_aload_n hx hb dL_texts_27 rfl (lv_at hl 1 rfl) ?_
      refine lv_iload_n hx hb dL_texts_28 rfl (lv_at hl 0 rfl) ?_
      refine lq_V S9 hLF (d_volume l G cy kS vS a (OV.mk V.σ V.ρ V.nx V.ct V.LN V.f nb fb) k ho hk9) (bigV 1 hts (big_at 16 17 rfl) (big_at 0 6 rfl) (big_at 16 20 rfl) (big_at 16 18 rfl) (big_at 16 19 rfl) rfl rfl (by decide +kernel) ⟨Nat.le_of_ble_eq_true rfl, Nat.le_of_ble_eq_true rfl⟩) hP hD hS hA rfl hl.1 rfl (Nat.le_of_ble_eq_true rfl) (MC := 275) ⟨rfl, rfl⟩ (40 * d + 96) (by omega) (by omega) dL_texts_29 (fun u H locs cells slots hc hs hP hD hS => ?_)
      refine lv_t0 (show (vB V.σ k) = vB V.σ k from rfl) ?_
      refine lv_t0 (show (vB V.σ k) = nI (bx (vB V.σ k)) from ev) ?_
      have hP : va_P G vwCl (fl [OW cy a (OV.mk V.σ V.ρ V.nx V.ct V.LN V.f nb fb) u] ++ sbW cy sb29 vb37 16 0 t42.length f39) H := by rw [fl_snoc]; exact hP
      have hD : va_D (va_A (OW cy a V u0) s.heap.size) (fl [OW cy a (OV.mk V.σ V.ρ V.nx V.ct V.LN V.f nb fb) u] ++ sbW cy sb29 vb37 16 0 t42.length f39) := by rw [fl_snoc]; exact hD
      have hFw := free_of hD hS hA
      refine lg_run (Wr := [OW cy a (OV.mk V.σ V.ρ V.nx V.ct V.LN V.f nb fb) u]) (va_runV S9 ((z_appN l G cy kS vS sb29 vb37 0 t42 f39 (bx (vB V.σ k)) hB40 (by omega) (show t42.length + 3 ≤ 16 by have := hl41; omega)) _) (bigV 1 hts (big_at 29 15 rfl) (big_at 1 8 rfl) (big_at 29 18 rfl) (big_at 29 16 rfl) (big_at 29 17 rfl) rfl rfl (by decide +kernel) ⟨Nat.le_of_ble_eq_true rfl, Nat.le_of_ble_eq_true rfl⟩) ⟨fun b2 U g mk q => ⟨q.1, q.2.1, PJ.blind U g mk b2 q.2.2.1, q.2.2.2⟩, va_recv (ci := 1) (q0 := 0) hK.1 (strip_P hP) rfl rfl, fun U hU hW => ⟨rfl, (congrArg Array.size hU), PJ.at hSK hDZ hS hFw hK (strip_P hP) U hU hW, (strip_D hD).weaken (fun _ _ _ _ => trivial)⟩⟩ (g := F0 m _ ls _) rfl rfl hl.1 rfl (lv_room (Nat.le_of_ble_eq_true rfl)) dL_texts_32 ⟨(show _ ≤ 275 by omega), (show _ ≤ 64 * 275 by omega)⟩) hP hD hS hA (MC := 275) (40 * d + 95) 1 (by decide) (by decide) (by omega) (by omega) (fun w9 H locs cells slots hu hc hs hP hD hS => ?_)
      obtain ⟨vb43, mm44, f45⟩ := w9
      obtain ⟨hB46, e9⟩ := hu
      have e9 : mm44 = 16 := e9
      subst e9
      have hP : va_P G vwCl (fl [OW cy a (OV.mk V.σ V.ρ V.nx V.ct V.LN V.f nb fb) u, sbW cy sb29 vb43 16 0 (t42 ++ dgs (bx (vB V.σ k))).length f45]) H := hP
      have hD : va_D (va_A (OW cy a V u0) s.heap.size) (fl [OW cy a (OV.mk V.σ V.ρ V.nx V.ct V.LN V.f nb fb) u, sbW cy sb29 vb43 16 0 (t42 ++ dgs (bx (vB V.σ k))).length f45]) := hD
      have hl47 : (t42 ++ dgs (bx (vB V.σ k))).length ≤ 7 := by rw [List.length_append]; have := hl41; have := dgs_len (k := (bx (vB V.σ k))); omega
      obtain ⟨t48, qt48⟩ : ∃ z : List Int32, z = (t42 ++ dgs (bx (vB V.σ k))) := ⟨_, rfl⟩
      rw [← qt48] at hP hD hB46 hl47
      refine va_ldcSw hx hb hown (hSK.2.1 9 (by decide)) dL_texts_35 ?_
      have hP : va_P G vwCl (fl [OW cy a (OV.mk V.σ V.ρ V.nx V.ct V.LN V.f nb fb) u] ++ sbW cy sb29 vb43 16 0 t48.length f45) H := by rw [fl_snoc]; exact hP
      have hD : va_D (va_A (OW cy a V u0) s.heap.size) (fl [OW cy a (OV.mk V.σ V.ρ V.nx V.ct V.LN V.f nb fb) u] ++ sbW cy sb29 vb43 16 0 t48.length f45) := by rw [fl_snoc]; exact hD
      have hFw := free_of hD hS hA
      refine lg_run (Wr := [OW cy a (OV.mk V.σ V.ρ V.nx V.ct V.LN V.f nb fb) u]) (va_runV S9 ((s_appS l G cy kS vS sb29 vb43 0 t48 f45 16 (ltS 9) (kS 9) (vS 9) (by decide) (by unfold FB; decide) hB46 (show t48.length + (ltS 9).length ≤ 34 by have := hl47; have : (ltS 9).length = 1 := (by decide); omega)) _) (bigV 1 hts (big_at 33 9 rfl) (big_at 1 8 rfl) (big_at 33 12 rfl) (big_at 33 10 rfl) (big_at 33 11 rfl) rfl rfl (by decide +kernel) ⟨Nat.le_of_ble_eq_true rfl, Nat.le_of_ble_eq_true rfl⟩) ⟨fun b2 U g mk q => ⟨q.1, q.2.1, PTx.blind U g mk b2 q.2.2.1, q.2.2.2⟩, va_recv (ci := 1) (q0 := 0) hK.1 (strip_P hP) rfl rfl, fun U hU hW => ⟨rfl, (congrArg Array.size hU), PTx.at (strI.kept9 (hSK.1.1 9 (by decide)) hS hFw) hSK hDZ hS hFw hK (strip_P hP) U hU hW, (strip_D hD).weaken (fun _ _ _ _ => trivial)⟩⟩ (g := F0 m _ ls _) rfl rfl hl.1 rfl (lv_room (Nat.le_of_ble_eq_true rfl)) dL_texts_38 ⟨(show _ ≤ 275 by omega), (show _ ≤ 64 * 275 by omega)⟩) hP hD hS hA (MC := 275) (40 * d + 94) 1 (by decide) (by decide) (by omega) (by omega) (fun w9 H locs cells slots hu hc hs hP hD hS => ?_)
      obtain ⟨vb49, mm50, f51⟩ := w9
      obtain ⟨hB52, e9⟩ := hu
      have e9 : mm50 = 16 := e9 rfl (show t48.length + (ltS 9).length ≤ 16 by have := hl47; have : (ltS 9).length = 1 := (by decide); omega)
      subst e9
      have hP : va_P G vwCl (fl [OW cy a (OV.mk V.σ V.ρ V.nx V.ct V.LN V.f nb fb) u, sbW cy sb29 vb49 16 0 (t48 ++ (ltS 9)).length f51]) H := hP
      have hD : va_D (va_A (OW cy a V u0) s.heap.size) (fl [OW cy a (OV.mk V.σ V.ρ V.nx V.ct V.LN V.f nb fb) u, sbW cy sb29 vb49 16 0 (t48 ++ (ltS 9)).length f51]) := hD
      have hl53 : (t48 ++ (ltS 9)).length ≤ 8 := by rw [List.length_append]; have := hl47; have : (ltS 9).length = 1 := (by decide); omega
      obtain ⟨t54, qt54⟩ : ∃ z : List Int32, z = (t48 ++ (ltS 9)) := ⟨_, rfl⟩
      rw [← qt54] at hP hD hB52 hl53
      refine lv_aload_n hx hb dL_texts_41 rfl (lv_at hl 1 rfl) ?_
      refine lv_iload_n hx hb dL_texts_42 rfl (lv_at hl 0 rfl) ?_
      refine lq_V S9 hLF (d_volume l G cy kS vS a (OV.mk V.σ V.ρ V.nx V.ct V.LN V.f nb fb) k ho hk9) (bigV 1 hts (big_at 16 17 rfl) (big_at 0 6 rfl) (big_at 16 20 rfl) (big_at 16 18 rfl) (big_at 16 19 rfl) rfl rfl (by decide +kernel) ⟨Nat.le_of_ble_eq_true rfl, Nat.le_of_ble_eq_true rfl⟩) hP hD hS hA rfl hl.1 rfl (Nat.le_of_ble_eq_true rfl) (MC := 275) ⟨rfl, rfl⟩ (40 * d + 94) (by omega) (by omega) dL_texts_43 (fun u H locs cells slots hc hs hP hD hS => ?_)
      refine lv_t0 (show (vB V.σ k) = vB V.σ k from rfl) ?_
      by_cases w9 : wet (vB V.σ) k = true
      · refine lv_if_le (tgt := 76) hx hb dL_texts_46 (by decide) (fun c9 => absurd c9 (m_wet w9)) (fun _ => ?_)
        refine va_new (ci := 1) (fs := [.null, .int 0, .int 0, .int 0]) (C := RJ4) (T := TJ4) (N := 4) hx hb hts hi_J4 tyJ4 tyJ4_ok hown (hts _ (big_at 29 13 rfl)) (hts _ (big_at 1 7 rfl)) (hts _ (big_at 1 8 rfl)) hK.1 hP hD hS hA rfl (fun j hj => by rcases (show j = 0 ∨ j = 1 ∨ j = 2 ∨ j = 3 by omega) with rfl | rfl | rfl | rfl <;> rfl) (show _ ≤ 275 by omega) (show _ ≤ 64 * 275 by omega) dL_texts_49 (fun sb55 H hP hD hS => ?_)
        refine lv_dup hx hb dL_texts_52 rfl ?_
        have hFw := free_of hD hS hA
        refine lg_run (Wr := [OW cy a (OV.mk V.σ V.ρ V.nx V.ct V.LN V.f nb fb) u, sbW cy sb29 vb49 16 0 t54.length f51]) (va_runI S9 ((GR.ofNW (c_J4_init_da8c8 l G cy sb55) sub_J4_init_da8c8) _) (bigI 0 hts (big_at 29 14 rfl) (big_at 1 8 rfl) (big_at 4 15 rfl) (big_at 4 14 rfl) rfl rfl rfl (by decide +kernel) ⟨Nat.le_of_ble_eq_true rfl, Nat.le_of_ble_eq_true rfl⟩) ⟨fun b2 U g mk q => ⟨q.1, q.2.1, PN.blind U g mk b2 q.2.2.1, q.2.2.2⟩, fun U hU hW => ⟨rfl, (congrArg Array.size hU), PN.at hK hLF.2.2.2.2.2.2 hSK.2.2.1 hS hFw (strip_P hP) U hU hW, (strip_D hD).weaken (fun _ _ _ _ => trivial)⟩⟩ (g := F0 m _ ls _) rfl rfl hl.1 rfl (lv_room (Nat.le_of_ble_eq_true rfl)) dL_texts_53 ⟨(show _ ≤ 275 by omega), (show _ ≤ 64 * 275 by omega)⟩) hP hD hS hA (MC := 275) (40 * d + 92) 1 (by decide) (by decide) (by omega) (by omega) (fun v56 H locs cells slots _ hc hs hP hD hS => ?_)
        have hP : va_P G vwCl (fl [OW cy a (OV.mk V.σ V.ρ V.nx V.ct V.LN V.f nb fb) u, sbW cy sb29 vb49 16 0 t54.length f51, sbW cy sb55 (v56 1) 16 0 ([] : List Int32).length (fun _ => 0)]) H := hP
        have hD : va_D (va_A (OW cy a V u0) s.heap.size) (fl [OW cy a (OV.mk V.σ V.ρ V.nx V.ct V.LN V.f nb fb) u, sbW cy sb29 vb49 16 0 t54.length f51, sbW cy sb55 (v56 1) 16 0 ([] : List Int32).length (fun _ => 0)]) := hD
        refine lv_aload_n hx hb dL_texts_56 rfl (lv_at hl 1 rfl) ?_
        refine lv_iload_n hx hb dL_texts_57 rfl (lv_at hl 0 rfl) ?_
        refine lq_V S9 hLF (d_temperature l G cy kS vS a (OV.mk V.σ V.ρ V.nx V.ct V.LN V.f nb fb) k ho hk9 w9) (bigV 1 hts (big_at 17 19 rfl) (big_at 0 6 rfl) (big_at 17 22 rfl) (big_at 17 20 rfl) (big_at 17 21 rfl) rfl rfl (by decide +kernel) ⟨Nat.le_of_ble_eq_true rfl, Nat.le_of_ble_eq_true rfl⟩) hP hD hS hA rfl hl.1 rfl (Nat.le_of_ble_eq_true rfl) (MC := 275) ⟨rfl, rfl⟩ (40 * d + 92) (by omega) (by omega) dL_texts_58 (fun u H locs cells slots hc hs hP hD hS => ?_)
        refine lv_t0 (show (rdeg (hB V.σ k) (vB V.σ k)) = rdeg (hB V.σ k) (vB V.σ k) from rfl) ?_
        refine lv_t0 (show (rdeg (hB V.σ k) (vB V.σ k)) = nI (bx (rdeg (hB V.σ k) (vB V.σ k))) from er) ?_
        have hP : va_P G vwCl (fl [OW cy a (OV.mk V.σ V.ρ V.nx V.ct V.LN V.f nb fb) u, sbW cy sb29 vb49 16 0 t54.length f51] ++ sbW cy sb55 (v56 1) 16 0 ([] : List Int32).length (fun _ => 0)) H := by rw [fl_snoc]; exact hP
        have hD : va_D (va_A (OW cy a V u0) s.heap.size) (fl [OW cy a (OV.mk V.σ V.ρ V.nx V.ct V.LN V.f nb fb) u, sbW cy sb29 vb49 16 0 t54.length f51] ++ sbW cy sb55 (v56 1) 16 0 ([] : List Int32).length (fun _ => 0)) := by rw [fl_snoc]; exact hD
        have hFw := free_of hD hS hA
        refine lg_run (Wr := [OW cy a (OV.mk V.σ V.ρ V.nx V.ct V.LN V.f nb fb) u, sbW cy sb29 vb49 16 0 t54.length f51]) (va_runV S9 ((z_appN l G cy kS vS sb55 (v56 1) 0 ([] : List Int32) (fun _ => 0) (bx (rdeg (hB V.σ k) (vB V.σ k))) BTx.nil (by omega) (show ([] : List Int32).length + 3 ≤ 16 by have := (show ([] : List Int32).length ≤ 0 from Nat.le_refl 0); omega)) _) (bigV 1 hts (big_at 29 15 rfl) (big_at 1 8 rfl) (big_at 29 18 rfl) (big_at 29 16 rfl) (big_at 29 17 rfl) rfl rfl (by decide +kernel) ⟨Nat.le_of_ble_eq_true rfl, Nat.le_of_ble_eq_true rfl⟩) ⟨fun b2 U g mk q => ⟨q.1, q.2.1, PJ.blind U g mk b2 q.2.2.1, q.2.2.2⟩, va_recv (ci := 1) (q0 := 0) hK.1 (strip_P hP) rfl rfl, fun U hU hW => ⟨rfl, (congrArg Array.size hU), PJ.at hSK hDZ hS hFw hK (strip_P hP) U hU hW, (strip_D hD).weaken (fun _ _ _ _ => trivial)⟩⟩ (g := F0 m _ ls _) rfl rfl hl.1 rfl (lv_room (Nat.le_of_ble_eq_true rfl)) dL_texts_61 ⟨(show _ ≤ 275 by omega), (show _ ≤ 64 * 275 by omega)⟩) hP hD hS hA (MC := 275) (40 * d + 91) 1 (by decide) (by decide) (by omega) (by omega) (fun w9 H locs cells slots hu hc hs hP hD hS => ?_)
        obtain ⟨vb57, mm58, f59⟩ := w9
        obtain ⟨hB60, e9⟩ := hu
        have e9 : mm58 = 16 := e9
        subst e9
        have hP : va_P G vwCl (fl [OW cy a (OV.mk V.σ V.ρ V.nx V.ct V.LN V.f nb fb) u, sbW cy sb29 vb49 16 0 t54.length f51, sbW cy sb55 vb57 16 0 (([] : List Int32) ++ dgs (bx (rdeg (hB V.σ k) (vB V.σ k)))).length f59]) H := hP
        have hD : va_D (va_A (OW cy a V u0) s.heap.size) (fl [OW cy a (OV.mk V.σ V.ρ V.nx V.ct V.LN V.f nb fb) u, sbW cy sb29 vb49 16 0 t54.length f51, sbW cy sb55 vb57 16 0 (([] : List Int32) ++ dgs (bx (rdeg (hB V.σ k) (vB V.σ k)))).length f59]) := hD
        have hl61 : (([] : List Int32) ++ dgs (bx (rdeg (hB V.σ k) (vB V.σ k)))).length ≤ 3 := by rw [List.length_append]; have := (show ([] : List Int32).length ≤ 0 from Nat.le_refl 0); have := dgs_len (k := (bx (rdeg (hB V.σ k) (vB V.σ k)))); omega
        obtain ⟨t62, qt62⟩ : ∃ z : List Int32, z = (([] : List Int32) ++ dgs (bx (rdeg (hB V.σ k) (vB V.σ k)))) := ⟨_, rfl⟩
        rw [← qt62] at hP hD hB60 hl61
        refine va_ldcSw hx hb hown (hSK.2.1 10 (by decide)) dL_texts_64 ?_
        have hP : va_P G vwCl (fl [OW cy a (OV.mk V.σ V.ρ V.nx V.ct V.LN V.f nb fb) u, sbW cy sb29 vb49 16 0 t54.length f51] ++ sbW cy sb55 vb57 16 0 t62.length f59) H := by rw [fl_snoc]; exact hP
        have hD : va_D (va_A (OW cy a V u0) s.heap.size) (fl [OW cy a (OV.mk V.σ V.ρ V.nx V.ct V.LN V.f nb fb) u, sbW cy sb29 vb49 16 0 t54.length f51] ++ sbW cy sb55 vb57 16 0 t62.length f59) := by rw [fl_snoc]; exact hD
        have hFw := free_of hD hS hA
        refine lg_run (Wr := [OW cy a (OV.mk V.σ V.ρ V.nx V.ct V.LN V.f nb fb) u, sbW cy sb29 vb49 16 0 t54.length f51]) (va_runV S9 ((s_appS l G cy kS vS sb55 vb57 0 t62 f59 16 (ltS 10) (kS 10) (vS 10) (by decide) (by unfold FB; decide) hB60 (show t62.length + (ltS 10).length ≤ 34 by have := hl61; have : (ltS 10).length = 1 := (by decide); omega)) _) (bigV 1 hts (big_at 33 9 rfl) (big_at 1 8 rfl) (big_at 33 12 rfl) (big_at 33 10 rfl) (big_at 33 11 rfl) rfl rfl (by decide +kernel) ⟨Nat.le_of_ble_eq_true rfl, Nat.le_of_ble_eq_true rfl⟩) ⟨fun b2 U g mk q => ⟨q.1, q.2.1, PTx.blind U g mk b2 q.2.2.1, q.2.2.2⟩, va_recv (ci := 1) (q0 := 0) hK.1 (strip_P hP) rfl rfl, fun U hU hW => ⟨rfl, (congrArg Array.size hU), PTx.at (strI.kept9 (hSK.1.1 10 (by decide)) hS hFw) hSK hDZ hS hFw hK (strip_P hP) U hU hW, (strip_D hD).weaken (fun _ _ _ _ => trivial)⟩⟩ (g := F0 m _ ls _) rfl rfl hl.1 rfl (lv_room (Nat.le_of_ble_eq_true rfl)) dL_texts_67 ⟨(show _ ≤ 275 by omega), (show _ ≤ 64 * 275 by omega)⟩) hP hD hS hA (MC := 275) (40 * d + 90) 1 (by decide) (by decide) (by omega) (by omega) (fun w9 H locs cells slots hu hc hs hP hD hS => ?_)
        obtain ⟨vb63, mm64, f65⟩ := w9
        obtain ⟨hB66, e9⟩ := hu
        have e9 : mm64 = 16 := e9 rfl (show t62.length + (ltS 10).length ≤ 16 by have := hl61; have : (ltS 10).length = 1 := (by decide); omega)
        subst e9
        have hP : va_P G vwCl (fl [OW cy a (OV.mk V.σ V.ρ V.nx V.ct V.LN V.f nb fb) u, sbW cy sb29 vb49 16 0 t54.length f51, sbW cy sb55 vb63 16 0 (t62 ++ (ltS 10)).length f65]) H := hP
        have hD : va_D (va_A (OW cy a V u0) s.heap.size) (fl [OW cy a (OV.mk V.σ V.ρ V.nx V.ct V.LN V.f nb fb) u, sbW cy sb29 vb49 16 0 t54.length f51, sbW cy sb55 vb63 16 0 (t62 ++ (ltS 10)).length f65]) := hD
        have hl67 : (t62 ++ (ltS 10)).length ≤ 4 := by rw [List.length_append]; have := hl61; have : (ltS 10).length = 1 := (by decide); omega
        obtain ⟨t68, qt68⟩ : ∃ z : List Int32, z = (t62 ++ (ltS 10)) := ⟨_, rfl⟩
        rw [← qt68] at hP hD hB66 hl67
        have hP : va_P G vwCl (fl [OW cy a (OV.mk V.σ V.ρ V.nx V.ct V.LN V.f nb fb) u, sbW cy sb29 vb49 16 0 t54.length f51] ++ sbW cy sb55 vb63 16 0 t68.length f65) H := by rw [fl_snoc]; exact hP
        have hD : va_D (va_A (OW cy a V u0) s.heap.size) (fl [OW cy a (OV.mk V.σ V.ρ V.nx V.ct V.LN V.f nb fb) u, sbW cy sb29 vb49 16 0 t54.length f51] ++ sbW cy sb55 vb63 16 0 t68.length f65) := by rw [fl_snoc]; exact hD
        have hFw := free_of hD hS hA
        refine lg_run (Wr := [OW cy a (OV.mk V.σ V.ρ V.nx V.ct V.LN V.f nb fb) u, sbW cy sb29 vb49 16 0 t54.length f51]) (va_runV S9 ((s_toStr l G cy kS vS sb55 vb63 0 t68 f65 16 hB66 (show t68.length < 16 by have := hl67; omega)) _) (bigV 0 hts (big_at 36 2 rfl) (big_at 1 8 rfl) (big_at 36 5 rfl) (big_at 36 3 rfl) (big_at 36 4 rfl) rfl rfl (by decide +kernel) ⟨Nat.le_of_ble_eq_true rfl, Nat.le_of_ble_eq_true rfl⟩) ⟨fun b2 U g mk q => ⟨q.1, q.2.1, PJ.blind U g mk b2 q.2.2.1, q.2.2.2⟩, va_recv (ci := 1) (q0 := 0) hK.1 (strip_P hP) rfl rfl, fun U hU hW => ⟨rfl, (congrArg Array.size hU), PJ.at hSK hDZ hS hFw hK (strip_P hP) U hU hW, (strip_D hD).weaken (fun _ _ _ _ => trivial)⟩⟩ (g := F0 m _ ls _) rfl rfl hl.1 rfl (lv_room (Nat.le_of_ble_eq_true rfl)) dL_texts_70 ⟨(show _ ≤ 275 by omega), (show _ ≤ 64 * 275 by omega)⟩) hP hD hS hA (MC := 275) (40 * d + 88) 2 (by decide) (by decide) (by omega) (by omega) (fun w9 H locs cells slots hu hc hs hP hD hS => ?_)
        obtain ⟨x69, y70, g71⟩ := w9
        have hg72 := hu
        have hP : va_P G vwCl (fl ([OW cy a (OV.mk V.σ V.ρ V.nx V.ct V.LN V.f nb fb) u, sbW cy sb29 vb49 16 0 t54.length f51] ++ [(sbW cy sb55 vb63 16 0 t68.length f65) ++ [(x69, .inr (0, [.ref y70, .int 0, .int 0, .int 0])), (y70, .inl (cy 0, t68.length, .inl g71))]])) H := hP
        have hD : va_D (va_A (OW cy a V u0) s.heap.size) (fl ([OW cy a (OV.mk V.σ V.ρ V.nx V.ct V.LN V.f nb fb) u, sbW cy sb29 vb49 16 0 t54.length f51] ++ [(sbW cy sb55 vb63 16 0 t68.length f65) ++ [(x69, .inr (0, [.ref y70, .int 0, .int 0, .int 0])), (y70, .inl (cy 0, t68.length, .inl g71))]])) := hD
        rw [fl_two] at hP hD
        have hP : va_P G vwCl (fl [OW cy a (OV.mk V.σ V.ρ V.nx V.ct V.LN V.f nb fb) u, sbW cy sb29 vb49 16 0 t54.length f51, sbW cy sb55 vb63 16 0 t68.length f65, [(x69, .inr (0, [.ref y70, .int 0, .int 0, .int 0])), (y70, .inl (cy 0, t68.length, .inl g71))]]) H := hP
        have hD : va_D (va_A (OW cy a V u0) s.heap.size) (fl [OW cy a (OV.mk V.σ V.ρ V.nx V.ct V.LN V.f nb fb) u, sbW cy sb29 vb49 16 0 t54.length f51, sbW cy sb55 vb63 16 0 t68.length f65, [(x69, .inr (0, [.ref y70, .int 0, .int 0, .int 0])), (y70, .inl (cy 0, t68.length, .inl g71))]]) := hD
        refine lv_goto (tgt := 79) hx hb dL_texts_73 (by decide) ?_
        have hP : va_P G vwCl (fl [OW cy a (OV.mk V.σ V.ρ V.nx V.ct V.LN V.f nb fb) u, [(x69, .inr (0, [.ref y70, .int 0, .int 0, .int 0])), (y70, .inl (cy 0, t68.length, .inl g71))], sbW cy sb29 vb49 16 0 t54.length f51]) H := PpartC (Wc := [OW cy a (OV.mk V.σ V.ρ V.nx V.ct V.LN V.f nb fb) u, sbW cy sb29 vb49 16 0 t54.length f51, sbW cy sb55 vb63 16 0 t68.length f65, [(x69, .inr (0, [.ref y70, .int 0, .int 0, .int 0])), (y70, .inl (cy 0, t68.length, .inl g71))]]) hP [0, 3, 1] rfl
        have hD : va_D (va_A (OW cy a V u0) s.heap.size) (fl [OW cy a (OV.mk V.σ V.ρ V.nx V.ct V.LN V.f nb fb) u, [(x69, .inr (0, [.ref y70, .int 0, .int 0, .int 0])), (y70, .inl (cy 0, t68.length, .inl g71))], sbW cy sb29 vb49 16 0 t54.length f51]) := DpartC (Wc := [OW cy a (OV.mk V.σ V.ρ V.nx V.ct V.LN V.f nb fb) u, sbW cy sb29 vb49 16 0 t54.length f51, sbW cy sb55 vb63 16 0 t68.length f65, [(x69, .inr (0, [.ref y70, .int 0, .int 0, .int 0])), (y70, .inl (cy 0, t68.length, .inl g71))]]) hD [0, 3, 1] (by decide) rfl
        have hFB9 : FB t68 := by rw [qt68, qt62]; exact FB_app (FB_app (fun _ h => absurd h List.not_mem_nil) (FB_dgs (by omega))) (by unfold FB; decide)
        have hP : va_P G vwCl (fl [OW cy a (OV.mk V.σ V.ρ V.nx V.ct V.LN V.f nb fb) u, [(x69, .inr (0, [.ref y70, .int 0, .int 0, .int 0])), (y70, .inl (cy 0, t68.length, .inl g71))]] ++ sbW cy sb29 vb49 16 0 t54.length f51) H := by rw [fl_snoc]; exact hP
        have hD : va_D (va_A (OW cy a V u0) s.heap.size) (fl [OW cy a (OV.mk V.σ V.ρ V.nx V.ct V.LN V.f nb fb) u, [(x69, .inr (0, [.ref y70, .int 0, .int 0, .int 0])), (y70, .inl (cy 0, t68.length, .inl g71))]] ++ sbW cy sb29 vb49 16 0 t54.length f51) := by rw [fl_snoc]; exact hD
        have hFw := free_of hD hS hA
        refine lg_run (Wr := [OW cy a (OV.mk V.σ V.ρ V.nx V.ct V.LN V.f nb fb) u, [(x69, .inr (0, [.ref y70, .int 0, .int 0, .int 0])), (y70, .inl (cy 0, t68.length, .inl g71))]]) (va_runV S9 ((s_appS l G cy kS vS sb29 vb49 0 t54 f51 16 t68 x69 y70 (show t68.length < 1000 by have := hl67; omega) hFB9 hB52 (show t54.length + t68.length ≤ 34 by have := hl53; have := hl67; omega)) _) (bigV 1 hts (big_at 33 9 rfl) (big_at 1 8 rfl) (big_at 33 12 rfl) (big_at 33 10 rfl) (big_at 33 11 rfl) rfl rfl (by decide +kernel) ⟨Nat.le_of_ble_eq_true rfl, Nat.le_of_ble_eq_true rfl⟩) ⟨fun b2 U g mk q => ⟨q.1, q.2.1, PTx.blind U g mk b2 q.2.2.1, q.2.2.2⟩, va_recv (ci := 1) (q0 := 0) hK.1 (strip_P hP) rfl rfl, fun U hU hW => ⟨rfl, (congrArg Array.size hU), PTx.at (strI.ofC hts hK hP hD 1 rfl (show t68.length = _ from rfl) (show t68.length < 1000 by have := hl67; omega) hg72) hSK hDZ hS hFw hK (strip_P hP) U hU hW, (strip_D hD).weaken (fun _ _ _ _ => trivial)⟩⟩ (g := F0 m _ ls _) rfl rfl hl.1 rfl (lv_room (Nat.le_of_ble_eq_true rfl)) dL_texts_79 ⟨(show _ ≤ 275 by omega), (show _ ≤ 64 * 275 by omega)⟩) hP hD hS hA (MC := 275) (40 * d + 87) 1 (by decide) (by decide) (by omega) (by omega) (fun w9 H locs cells slots hu hc hs hP hD hS => ?_)
        obtain ⟨vb73, mm74, f75⟩ := w9
        obtain ⟨hB76, e9⟩ := hu
        have e9 : mm74 = 16 := e9 rfl (show t54.length + t68.length ≤ 16 by have := hl53; have := hl67; omega)
        subst e9
        have hP : va_P G vwCl (fl [OW cy a (OV.mk V.σ V.ρ V.nx V.ct V.LN V.f nb fb) u, [(x69, .inr (0, [.ref y70, .int 0, .int 0, .int 0])), (y70, .inl (cy 0, t68.length, .inl g71))], sbW cy sb29 vb73 16 0 (t54 ++ t68).length f75]) H := hP
        have hD : va_D (va_A (OW cy a V u0) s.heap.size) (fl [OW cy a (OV.mk V.σ V.ρ V.nx V.ct V.LN V.f nb fb) u, [(x69, .inr (0, [.ref y70, .int 0, .int 0, .int 0])), (y70, .inl (cy 0, t68.length, .inl g71))], sbW cy sb29 vb73 16 0 (t54 ++ t68).length f75]) := hD
        have hl77 : (t54 ++ t68).length ≤ 12 := by rw [List.length_append]; have := hl53; have := hl67; omega
        obtain ⟨t78, qt78⟩ : ∃ z : List Int32, z = (t54 ++ t68) := ⟨_, rfl⟩
        rw [← qt78] at hP hD hB76 hl77
        have hP : va_P G vwCl (fl [OW cy a (OV.mk V.σ V.ρ V.nx V.ct V.LN V.f nb fb) u, sbW cy sb29 vb73 16 0 t78.length f75]) H := PpartC (Wc := [OW cy a (OV.mk V.σ V.ρ V.nx V.ct V.LN V.f nb fb) u, [(x69, .inr (0, [.ref y70, .int 0, .int 0, .int 0])), (y70, .inl (cy 0, t68.length, .inl g71))], sbW cy sb29 vb73 16 0 t78.length f75]) hP [0, 2] rfl
        have hD : va_D (va_A (OW cy a V u0) s.heap.size) (fl [OW cy a (OV.mk V.σ V.ρ V.nx V.ct V.LN V.f nb fb) u, sbW cy sb29 vb73 16 0 t78.length f75]) := DpartC (Wc := [OW cy a (OV.mk V.σ V.ρ V.nx V.ct V.LN V.f nb fb) u, [(x69, .inr (0, [.ref y70, .int 0, .int 0, .int 0])), (y70, .inl (cy 0, t68.length, .inl g71))], sbW cy sb29 vb73 16 0 t78.length f75]) hD [0, 2] (by decide) rfl
        exact J82 sb29 vb73 f75 t78 _ _ _ _ _ hB76 (by have := hl77; omega) (by rw [qt78, qt54, qt48, qt42, qt36, qt68, qt62, if_pos w9]; rfl) (by omega) (by omega) hP hD hS ls (lv_sub hl [0, 1] rfl)
      · refine lv_if_le (tgt := 76) hx hb dL_texts_46 (by decide) (fun _ => ?_) (fun c9 => absurd (dry_le w9) c9)
        refine va_ldcSw hx hb hown (hSK.2.1 11 (by decide)) dL_texts_76 ?_
        have hP : va_P G vwCl (fl [OW cy a (OV.mk V.σ V.ρ V.nx V.ct V.LN V.f nb fb) u] ++ sbW cy sb29 vb49 16 0 t54.length f51) H := by rw [fl_snoc]; exact hP
        have hD : va_D (va_A (OW cy a V u0) s.heap.size) (fl [OW cy a (OV.mk V.σ V.ρ V.nx V.ct V.LN V.f nb fb) u] ++ sbW cy sb29 vb49 16 0 t54.length f51) := by rw [fl_snoc]; exact hD
        have hFw := free_of hD hS hA
        refine lg_run (Wr := [OW cy a (OV.mk V.σ V.ρ V.nx V.ct V.LN V.f nb fb) u]) (va_runV S9 ((s_appS l G cy kS vS sb29 vb49 0 t54 f51 16 (ltS 11) (kS 11) (vS 11) (by decide) (by unfold FB; decide) hB52 (show t54.length + (ltS 11).length ≤ 34 by have := hl53; have : (ltS 11).length = 0 := (by decide); omega)) _) (bigV 1 hts (big_at 33 9 rfl) (big_at 1 8 rfl) (big_at 33 12 rfl) (big_at 33 10 rfl) (big_at 33 11 rfl) rfl rfl (by decide +kernel) ⟨Nat.le_of_ble_eq_true rfl, Nat.le_of_ble_eq_true rfl⟩) ⟨fun b2 U g mk q => ⟨q.1, q.2.1, PTx.blind U g mk b2 q.2.2.1, q.2.2.2⟩, va_recv (ci := 1) (q0 := 0) hK.1 (strip_P hP) rfl rfl, fun U hU hW => ⟨rfl, (congrArg Array.size hU), PTx.at (strI.kept9 (hSK.1.1 11 (by decide)) hS hFw) hSK hDZ hS hFw hK (strip_P hP) U hU hW, (strip_D hD).weaken (fun _ _ _ _ => trivial)⟩⟩ (g := F0 m _ ls _) rfl rfl hl.1 rfl (lv_room (Nat.le_of_ble_eq_true rfl)) dL_texts_79 ⟨(show _ ≤ 275 by omega), (show _ ≤ 64 * 275 by omega)⟩) hP hD hS hA (MC := 275) (40 * d + 93) 1 (by decide) (by decide) (by omega) (by omega) (fun w9 H locs cells slots hu hc hs hP hD hS => ?_)
        obtain ⟨vb79, mm80, f81⟩ := w9
        obtain ⟨hB82, e9⟩ := hu
        have e9 : mm80 = 16 := e9 rfl (show t54.length + (ltS 11).length ≤ 16 by have := hl53; have : (ltS 11).length = 0 := (by decide); omega)
        subst e9
        have hP : va_P G vwCl (fl [OW cy a (OV.mk V.σ V.ρ V.nx V.ct V.LN V.f nb fb) u, sbW cy sb29 vb79 16 0 (t54 ++ (ltS 11)).length f81]) H := hP
        have hD : va_D (va_A (OW cy a V u0) s.heap.size) (fl [OW cy a (OV.mk V.σ V.ρ V.nx V.ct V.LN V.f nb fb) u, sbW cy sb29 vb79 16 0 (t54 ++ (ltS 11)).length f81]) := hD
        have hl83 : (t54 ++ (ltS 11)).length ≤ 8 := by rw [List.length_append]; have := hl53; have : (ltS 11).length = 0 := (by decide); omega
        obtain ⟨t84, qt84⟩ : ∃ z : List Int32, z = (t54 ++ (ltS 11)) := ⟨_, rfl⟩
        rw [← qt84] at hP hD hB82 hl83
        exact J82 sb29 vb79 f81 t84 _ _ _ _ _ hB82 (by have := hl83; omega) (by rw [qt84, qt54, qt48, qt42, qt36, if_neg w9]; rfl) (by omega) (by omega) hP hD hS ls (lv_sub hl [0, 1] rfl)
  exact L2 (nB V.σ) 0 (by omega) _ V.nb V.fb _ _ _ _ hn16 (by omega) (by omega) hP hD hS ls (lv_sub hl [0, 1] rfl)
