/-! all that is seen, as one number -/
def evL (x : Int32) : Int32 := if x = -1 then -13 else x
def sm0 (σ : St) : Int64 := 31 * (31 * (31 * (31 * (31 * (7 + (tT σ).toInt64) + (dT σ).toInt64) + (aT σ).toInt64) + (rT σ).toInt64) + (hT σ).toInt64) + (xT σ).toInt64
def smB (σ : St) : Nat → Int64
  | 0 => sm0 σ
  | k + 1 => 37 * smB σ k + (10000 * vB σ k).toInt64 + (4 * hB σ k).toInt64 + (2 * pB σ k).toInt64 + (mB σ k).toInt64
def smD (σ : St) : Nat → Int64
  | 0 => smB σ (nB σ)
  | k + 1 => 43 * (41 * smD σ k + (10000 * bD σ k).toInt64 + (100 * lD σ k).toInt64 + (uD σ k).toInt64) + (qD σ k).toInt64
def smE (σ : St) : Nat → Int64
  | 0 => smD σ (nD σ)
  | k + 1 => 47 * smE σ k + (10000 * kE σ k).toInt64 + (100 * bE σ k).toInt64 + (evL (lE σ k)).toInt64
def sumF (σ : St) : Int64 := smE σ (nE σ)
set_option maxRecDepth 100000 in
set_option maxHeartbeats 2000000 in
theorem n_sum (l : Launch) (G : va_G) (cy : Nat → ClassId) (kS vS : Nat → Nat) (a : OA) (V : OV) (n0 : Nat) (hl9 : l.stackTraces = false) (hI : Inv n0 V.σ) : LQ l yL_sum 14 400 45 G cy kS vS a V V [.ref a.aX] (.long (sumF V.σ)) := by
  refine LX.ofW (cc := cL_sum) (maxL := 7) (ret := (some .long)) (by decide) (big_at 45 19 rfl) (Nat.le_of_ble_eq_true rfl) ?_
  intro p e s m below meth cq u0 S9 hr hlocks hPQ hD hS hA ls hl
  obtain ⟨hx, hb, hml, hown, hts⟩ := id S9
  have hLF := LF.mk hPQ
  have hK := hLF.1
  have hP : va_P G vwCl (fl [OW cy a V u0]) s.heap := hPQ.1.1
  have hD : va_D (va_A (OW cy a V u0) s.heap.size) (fl [OW cy a V u0]) := hD
  have hc : 0 + 45 ≤ 45 := Nat.le_of_ble_eq_true rfl
  have hs : 0 + 64 * 45 ≤ 64 * 45 := Nat.le_of_ble_eq_true rfl
  have hl : lv_has ls 7 [(0, .ref a.aX)] := hl
  have ho := hI.1
  have hN := ho.1
  have hDu := ho.2.1
  have hEv := ho.2.2.1
  refine lv_ldc2 hx hb hown (hts _ (big_at 45 20 rfl : Cond.constantLong RL 371 7 ∈ wsL_law)) dL_sum_0 ?_
  refine lv_aload_n hx hb dL_sum_3 rfl (lv_at hl 0 rfl) ?_
  refine lq_V S9 hLF (d_time l G cy kS vS a V ho) (bigV 0 hts (big_at 46 2 rfl) (big_at 0 6 rfl) (big_at 46 5 rfl) (big_at 46 3 rfl) (big_at 46 4 rfl) rfl rfl (by decide +kernel) ⟨Nat.le_of_ble_eq_true rfl, Nat.le_of_ble_eq_true rfl⟩) hP hD hS hA rfl hl.1 rfl (Nat.le_of_ble_eq_true rfl) (MC := 45) ⟨rfl, rfl⟩ (45) (by omega) (by omega) dL_sum_4 (fun u H locs cells slots hc hs hP hD hS => ?_)
  refine lv_i2l hx hb dL_sum_7 rfl ?_
  refine lv_ladd hx hb dL_sum_8 ?_
  refine lv_lstore_n (lv' := [(1, .long (7 + ((tT V.σ).toInt64))), (0, .ref a.aX)]) hx hb dL_sum_9 rfl hl (by decide) rfl (fun ls hl => ?_)
  refine lv_ldc2 hx hb hown (hts _ (big_at 45 21 rfl : Cond.constantLong RL 376 31 ∈ wsL_law)) dL_sum_10 ?_
  refine lv_lload_n hx hb dL_sum_13 rfl (lv_at hl 0 rfl) ?_
  refine lv_lmul hx hb dL_sum_14 ?_
  refine lv_aload_n hx hb dL_sum_15 rfl (lv_at hl 1 rfl) ?_
  refine lq_V S9 hLF (d_defectionTotal l G cy kS vS a V ho) (bigV 0 hts (big_at 46 7 rfl) (big_at 0 6 rfl) (big_at 46 10 rfl) (big_at 46 8 rfl) (big_at 46 9 rfl) rfl rfl (by decide +kernel) ⟨Nat.le_of_ble_eq_true rfl, Nat.le_of_ble_eq_true rfl⟩) hP hD hS hA rfl hl.1 rfl (Nat.le_of_ble_eq_true rfl) (MC := 45) ⟨rfl, rfl⟩ (45) (by omega) (by omega) dL_sum_16 (fun u H locs cells slots hc hs hP hD hS => ?_)
  refine lv_i2l hx hb dL_sum_19 rfl ?_
  refine lv_ladd hx hb dL_sum_20 ?_
  refine lv_lstore_n (lv' := [(1, .long ((31 * (7 + ((tT V.σ).toInt64))) + ((dT V.σ).toInt64))), (0, .ref a.aX)]) hx hb dL_sum_21 rfl hl (by decide) rfl (fun ls hl => ?_)
  refine lv_ldc2 hx hb hown (hts _ (big_at 45 21 rfl : Cond.constantLong RL 376 31 ∈ wsL_law)) dL_sum_22 ?_
  refine lv_lload_n hx hb dL_sum_25 rfl (lv_at hl 0 rfl) ?_
  refine lv_lmul hx hb dL_sum_26 ?_
  refine lv_aload_n hx hb dL_sum_27 rfl (lv_at hl 1 rfl) ?_
  refine lq_V S9 hLF (d_tappedLitres l G cy kS vS a V ho) (bigV 0 hts (big_at 46 11 rfl) (big_at 0 6 rfl) (big_at 46 14 rfl) (big_at 46 12 rfl) (big_at 46 13 rfl) rfl rfl (by decide +kernel) ⟨Nat.le_of_ble_eq_true rfl, Nat.le_of_ble_eq_true rfl⟩) hP hD hS hA rfl hl.1 rfl (Nat.le_of_ble_eq_true rfl) (MC := 45) ⟨rfl, rfl⟩ (45) (by omega) (by omega) dL_sum_28 (fun u H locs cells slots hc hs hP hD hS => ?_)
  refine lv_i2l hx hb dL_sum_31 rfl ?_
  refine lv_ladd hx hb dL_sum_32 ?_
  refine lv_lstore_n (lv' := [(1, .long ((31 * ((31 * (7 + ((tT V.σ).toInt64))) + ((dT V.σ).toInt64))) + ((aT V.σ).toInt64))), (0, .ref a.aX)]) hx hb dL_sum_33 rfl hl (by decide) rfl (fun ls hl => ?_)
  refine lv_ldc2 hx hb hown (hts _ (big_at 45 21 rfl : Cond.constantLong RL 376 31 ∈ wsL_law)) dL_sum_34 ?_
  refine lv_lload_n hx hb dL_sum_37 rfl (lv_at hl 0 rfl) ?_
  refine lv_lmul hx hb dL_sum_38 ?_
  refine lv_aload_n hx hb dL_sum_39 rfl (lv_at hl 1 rfl) ?_
  refine lq_V S9 hLF (d_drainedLitres l G cy kS vS a V ho) (bigV 0 hts (big_at 46 15 rfl) (big_at 0 6 rfl) (big_at 46 18 rfl) (big_at 46 16 rfl) (big_at 46 17 rfl) rfl rfl (by decide +kernel) ⟨Nat.le_of_ble_eq_true rfl, Nat.le_of_ble_eq_true rfl⟩) hP hD hS hA rfl hl.1 rfl (Nat.le_of_ble_eq_true rfl) (MC := 45) ⟨rfl, rfl⟩ (45) (by omega) (by omega) dL_sum_40 (fun u H locs cells slots hc hs hP hD hS => ?_)
  refine lv_i2l hx hb dL_sum_43 rfl ?_
  refine lv_ladd hx hb dL_sum_44 ?_
  refine lv_lstore_n (lv' := [(1, .long ((31 * ((31 * ((31 * (7 + ((tT V.σ).toInt64))) + ((dT V.σ).toInt64))) + ((aT V.σ).toInt64))) + ((rT V.σ).toInt64))), (0, .ref a.aX)]) hx hb dL_sum_45 rfl hl (by decide) rfl (fun ls hl => ?_)
  refine lv_ldc2 hx hb hown (hts _ (big_at 45 21 rfl : Cond.constantLong RL 376 31 ∈ wsL_law)) dL_sum_46 ?_
  refine lv_lload_n hx hb dL_sum_49 rfl (lv_at hl 0 rfl) ?_
  refine lv_lmul hx hb dL_sum_50 ?_
  refine lv_aload_n hx hb dL_sum_51 rfl (lv_at hl 1 rfl) ?_
  refine lq_V S9 hLF (d_tappedHeat l G cy kS vS a V ho) (bigV 0 hts (big_at 46 19 rfl) (big_at 0 6 rfl) (big_at 46 22 rfl) (big_at 46 20 rfl) (big_at 46 21 rfl) rfl rfl (by decide +kernel) ⟨Nat.le_of_ble_eq_true rfl, Nat.le_of_ble_eq_true rfl⟩) hP hD hS hA rfl hl.1 rfl (Nat.le_of_ble_eq_true rfl) (MC := 45) ⟨rfl, rfl⟩ (45) (by omega) (by omega) dL_sum_52 (fun u H locs cells slots hc hs hP hD hS => ?_)
  refine lv_i2l hx hb dL_sum_55 rfl ?_
  refine lv_ladd hx hb dL_sum_56 ?_
  refine lv_lstore_n (lv' := [(1, .long ((31 * ((31 * ((31 * ((31 * (7 + ((tT V.σ).toInt64))) + ((dT V.σ).toInt64))) + ((aT V.σ).toInt64))) + ((rT V.σ).toInt64))) + ((hT V.σ).toInt64))), (0, .ref a.aX)]) hx hb dL_sum_57 rfl hl (by decide) rfl (fun ls hl => ?_)
  refine lv_ldc2 hx hb hown (hts _ (big_at 45 21 rfl : Cond.constantLong RL 376 31 ∈ wsL_law)) dL_sum_58 ?_
  refine lv_lload_n hx hb dL_sum_61 rfl (lv_at hl 0 rfl) ?_
  refine lv_lmul hx hb dL_sum_62 ?_
  refine lv_aload_n hx hb dL_sum_63 rfl (lv_at hl 1 rfl) ?_
  refine lq_V S9 hLF (d_lostHeat l G cy kS vS a V ho) (bigV 0 hts (big_at 46 23 rfl) (big_at 0 6 rfl) (big_at 47 2 rfl) (big_at 47 0 rfl) (big_at 47 1 rfl) rfl rfl (by decide +kernel) ⟨Nat.le_of_ble_eq_true rfl, Nat.le_of_ble_eq_true rfl⟩) hP hD hS hA rfl hl.1 rfl (Nat.le_of_ble_eq_true rfl) (MC := 45) ⟨rfl, rfl⟩ (45) (by omega) (by omega) dL_sum_64 (fun u H locs cells slots hc hs hP hD hS => ?_)
  refine lv_i2l hx hb dL_sum_67 rfl ?_
  refine lv_ladd hx hb dL_sum_68 ?_
  refine lv_lstore_n (lv' := [(1, .long ((31 * ((31 * ((31 * ((31 * ((31 * (7 + ((tT V.σ).toInt64))) + ((dT V.σ).toInt64))) + ((aT V.σ).toInt64))) + ((rT V.σ).toInt64))) + ((hT V.σ).toInt64))) + ((xT V.σ).toInt64))), (0, .ref a.aX)]) hx hb dL_sum_69 rfl hl (by decide) rfl (fun ls hl => ?_)
  refine lv_aload_n hx hb dL_sum_70 rfl (lv_at hl 1 rfl) ?_
  refine lb_S S9 hLF (n_baths l G cy kS vS a V n0 hI) (bigS 1 hts (big_at 16 8 rfl) (big_at 0 2 rfl) (big_at 16 10 rfl) (big_at 16 9 rfl) rfl rfl (by decide +kernel) ⟨Nat.le_of_ble_eq_true rfl, Nat.le_of_ble_eq_true rfl⟩) hP hD hS hA hl.1 (Nat.le_of_ble_eq_true rfl) (MC := 45) ⟨rfl, rfl⟩ (34) (by omega) (by omega) dL_sum_71 (fun u ro ra H locs cells slots hc hs hP hD hS => ?_)
  refine lv_astore_n (lv' := [(3, .ref ro), (1, .long ((31 * ((31 * ((31 * ((31 * ((31 * (7 + ((tT V.σ).toInt64))) + ((dT V.σ).toInt64))) + ((aT V.σ).toInt64))) + ((rT V.σ).toInt64))) + ((hT V.σ).toInt64))) + ((xT V.σ).toInt64))), (0, .ref a.aX)]) hx hb dL_sum_74 rfl hl (by decide) rfl (fun ls hl => ?_)
  refine lv_aload_n hx hb dL_sum_75 rfl (lv_at hl 0 rfl) ?_
  refine r_len (Wc := [OW cy a V u, rowsW cy ro ra V.σ]) hx hb hK hP 1 rfl dL_sum_76 ?_
  refine lv_istore (lv' := [(4, .int (nI (nB V.σ))), (3, .ref ro), (1, .long ((31 * ((31 * ((31 * ((31 * ((31 * (7 + ((tT V.σ).toInt64))) + ((dT V.σ).toInt64))) + ((aT V.σ).toInt64))) + ((rT V.σ).toInt64))) + ((hT V.σ).toInt64))) + ((xT V.σ).toInt64))), (0, .ref a.aX)]) hx hb dL_sum_77 hl (by decide) rfl (fun ls hl => ?_)
  refine lv_iconst (v := 0) hx hb dL_sum_79 (by decide) ?_
  refine lv_istore (lv' := [(5, .int 0), (4, .int (nI (nB V.σ))), (3, .ref ro), (1, .long ((31 * ((31 * ((31 * ((31 * ((31 * (7 + ((tT V.σ).toInt64))) + ((dT V.σ).toInt64))) + ((aT V.σ).toInt64))) + ((rT V.σ).toInt64))) + ((hT V.σ).toInt64))) + ((xT V.σ).toInt64))), (0, .ref a.aX)]) hx hb dL_sum_80 hl (by decide) rfl (fun ls hl => ?_)
  have L82 : ∀ (d k : Nat), k + d = nB V.σ → ∀ (u : OU) (H : Heap) (locs : List Loc) (cells slots : Nat), cells + (0 * d + 30) ≤ 45 → slots + 64 * (0 * d + 30) ≤ 64 * 45 → va_P G vwCl (fl [OW cy a V u, rowsW cy ro ra V.σ]) H → va_D (va_A (OW cy a V u0) s.heap.size) (fl [OW cy a V u, rowsW cy ro ra V.σ]) → va_S (va_A (OW cy a V u0) s.heap.size) s.heap H locs → ∀ ls : Array Slot, lv_has ls 7 [(5, .int (nI k)), (4, .int (nI (nB V.σ))), (3, .ref ro), (1, .long (smB V.σ k)), (0, .ref a.aX)] → W p l e ({ frames := 14, cells := 45, slots := 64 * 45, locals := 400 } : Room) s m ([.ref a.aX] : List Value).toArray below meth cq H locs cells slots (lxZ below ([.ref a.aX] : List Value).toArray s G cy a V u0 (fun V2 r2 => V2 = V ∧ r2 = .long (sumF V.σ)) 45) (F0 m 82 ls []) := by
    intro d
    induction d with
    | zero =>
      intro k hk u H locs cells slots hc hs hP hD hS ls hl
      have hk9 : k = nB V.σ := by omega
      subst hk9
      refine lv_iload hx hb dL_sum_82 (lv_at hl 0 rfl) ?_
      refine lv_iload hx hb dL_sum_84 (lv_at hl 1 rfl) ?_
      refine lv_icmp_ge (tgt := 139) hx hb dL_sum_86 (by decide) (fun _ => ?_) (fun c9 => absurd (Int32.le_refl _) c9)
      refine lv_iconst (v := 0) hx hb dL_sum_139 (by decide) ?_
      refine lv_istore_n (lv' := [(3, .int 0), (5, .int (nI (nB V.σ))), (4, .int (nI (nB V.σ))), (1, .long (smB V.σ (nB V.σ))), (0, .ref a.aX)]) hx hb dL_sum_140 rfl hl (by decide) rfl (fun ls hl => ?_)
      have L141 : ∀ (d k : Nat), k + d = nD V.σ → ∀ (u : OU) (H : Heap) (locs : List Loc) (cells slots : Nat), cells + (0 * d + 30) ≤ 45 → slots + 64 * (0 * d + 30) ≤ 64 * 45 → va_P G vwCl (fl [OW cy a V u, rowsW cy ro ra V.σ]) H → va_D (va_A (OW cy a V u0) s.heap.size) (fl [OW cy a V u, rowsW cy ro ra V.σ]) → va_S (va_A (OW cy a V u0) s.heap.size) s.heap H locs → ∀ ls : Array Slot, lv_has ls 7 [(3, .int (nI k)), (1, .long (smD V.σ k)), (0, .ref a.aX)] → W p l e ({ frames := 14, cells := 45, slots := 64 * 45, locals := 400 } : Room) s m ([.ref a.aX] : List Value).toArray below meth cq H locs cells slots (lxZ below ([.ref a.aX] : List Value).toArray s G cy a V u0 (fun V2 r2 => V2 = V ∧ r2 = .long (sumF V.σ)) 45) (F0 m 141 ls []) := by
        intro d
        induction d with
        | zero =>
          intro k hk u H locs cells slots hc hs hP hD hS ls hl
          have hk9 : k = nD V.σ := by omega
          subst hk9
          refine lv_iload_n hx hb dL_sum_141 rfl (lv_at hl 0 rfl) ?_
          refine lv_aload_n hx hb dL_sum_142 rfl (lv_at hl 2 rfl) ?_
          refine lq_V S9 hLF (d_duckCount l G cy kS vS a V ho) (bigV 0 hts (big_at 26 3 rfl) (big_at 0 6 rfl) (big_at 26 6 rfl) (big_at 26 4 rfl) (big_at 26 5 rfl) rfl rfl (by decide +kernel) ⟨Nat.le_of_ble_eq_true rfl, Nat.le_of_ble_eq_true rfl⟩) hP hD hS hA rfl hl.1 rfl (Nat.le_of_ble_eq_true rfl) (MC := 45) ⟨rfl, rfl⟩ (30) (by omega) (by omega) dL_sum_143 (fun u H locs cells slots hc hs hP hD hS => ?_)
          refine lv_icmp_ge (tgt := 202) hx hb dL_sum_146 (by decide) (fun _ => ?_) (fun c9 => absurd (Int32.le_refl _) c9)
          refine lv_iconst (v := 0) hx hb dL_sum_202 (by decide) ?_
          refine lv_istore_n (lv' := [(3, .int 0), (1, .long (smD V.σ (nD V.σ))), (0, .ref a.aX)]) hx hb dL_sum_203 rfl hl (by decide) rfl (fun ls hl => ?_)
          have L204 : ∀ (d k : Nat), k + d = nE V.σ → ∀ (u : OU) (H : Heap) (locs : List Loc) (cells slots : Nat), cells + (3 * d + 0) ≤ 45 → slots + 64 * (3 * d + 0) ≤ 64 * 45 → va_P G vwCl (fl [OW cy a V u, rowsW cy ro ra V.σ]) H → va_D (va_A (OW cy a V u0) s.heap.size) (fl [OW cy a V u, rowsW cy ro ra V.σ]) → va_S (va_A (OW cy a V u0) s.heap.size) s.heap H locs → ∀ ls : Array Slot, lv_has ls 7 [(3, .int (nI k)), (1, .long (smE V.σ k)), (0, .ref a.aX)] → W p l e ({ frames := 14, cells := 45, slots := 64 * 45, locals := 400 } : Room) s m ([.ref a.aX] : List Value).toArray below meth cq H locs cells slots (lxZ below ([.ref a.aX] : List Value).toArray s G cy a V u0 (fun V2 r2 => V2 = V ∧ r2 = .long (sumF V.σ)) 45) (F0 m 204 ls []) := by
            intro d
            induction d with
            | zero =>
              intro k hk u H locs cells slots hc hs hP hD hS ls hl
              have hk9 : k = nE V.σ := by omega
              subst hk9
              refine lv_iload_n hx hb dL_sum_204 rfl (lv_at hl 0 rfl) ?_
              refine lv_aload_n hx hb dL_sum_205 rfl (lv_at hl 2 rfl) ?_
              refine lq_V S9 hLF (d_eventCount l G cy kS vS a V ho) (bigV 0 hts (big_at 42 8 rfl) (big_at 0 6 rfl) (big_at 42 11 rfl) (big_at 42 9 rfl) (big_at 42 10 rfl) rfl rfl (by decide +kernel) ⟨Nat.le_of_ble_eq_true rfl, Nat.le_of_ble_eq_true rfl⟩) hP hD hS hA rfl hl.1 rfl (Nat.le_of_ble_eq_true rfl) (MC := 45) ⟨rfl, rfl⟩ (0) (by omega) (by omega) dL_sum_206 (fun u H locs cells slots hc hs hP hD hS => ?_)
              refine lv_icmp_ge (tgt := 252) hx hb dL_sum_209 (by decide) (fun _ => ?_) (fun c9 => absurd (Int32.le_refl _) c9)
              refine lv_lload_n hx hb dL_sum_252 rfl (lv_at hl 1 rfl) ?_
              exact lx_lret hx hb hr hlocks ⟨rfl, rfl⟩ hP hS (by omega) (by omega) dL_sum_253
            | succ d ih =>
              intro k hk u H locs cells slots hc hs hP hD hS ls hl
              have hk9 : k < nE V.σ := by omega
              refine lv_iload_n hx hb dL_sum_204 rfl (lv_at hl 0 rfl) ?_
              refine lv_aload_n hx hb dL_sum_205 rfl (lv_at hl 2 rfl) ?_
              refine lq_V S9 hLF (d_eventCount l G cy kS vS a V ho) (bigV 0 hts (big_at 42 8 rfl) (big_at 0 6 rfl) (big_at 42 11 rfl) (big_at 42 9 rfl) (big_at 42 10 rfl) rfl rfl (by decide +kernel) ⟨Nat.le_of_ble_eq_true rfl, Nat.le_of_ble_eq_true rfl⟩) hP hD hS hA rfl hl.1 rfl (Nat.le_of_ble_eq_true rfl) (MC := 45) ⟨rfl, rfl⟩ (3 * d + 3) (by omega) (by omega) dL_sum_206 (fun u H locs cells slots hc hs hP hD hS => ?_)
              refine lv_icmp_ge (tgt := 252) hx hb dL_sum_209 (by decide) (fun c9 => absurd c9 (fun q => absurd ((nI_leI (by omega) (by omega)).mp q) (by omega))) (fun _ => ?_)
              refine lv_ldc2 hx hb hown (hts _ (big_at 46 1 rfl : Cond.constantLong RL 399 47 ∈ wsL_law)) dL_sum_212 ?_
              refine lv_lload_n hx hb dL_sum_215 rfl (lv_at hl 1 rfl) ?_
              refine lv_lmul hx hb dL_sum_216 ?_
              refine lv_sipush (v := 10000) hx hb dL_sum_217 (by decide) ?_
              refine lv_aload_n hx hb dL_sum_220 rfl (lv_at hl 2 rfl) ?_
              refine lv_iload_n hx hb dL_sum_221 rfl (lv_at hl 0 rfl) ?_
              refine lq_SW S9 hLF (q_eventKind l G cy kS vS a V k ho hk9) (bigSW 2 hts (big_at 42 14 rfl) (big_at 0 2 rfl) (big_at 42 16 rfl) (big_at 42 15 rfl) rfl rfl (by decide +kernel) ⟨Nat.le_of_ble_eq_true rfl, Nat.le_of_ble_eq_true rfl⟩) hP hD hS hA rfl hl.1 rfl (Nat.le_of_ble_eq_true rfl) (MC := 45) ⟨rfl, rfl⟩ (3 * d + 2) (by omega) (by omega) dL_sum_222 (fun u H locs cells slots hc hs hP hD hS => ?_)
              refine lv_imul hx hb dL_sum_225 ?_
              refine lv_i2l hx hb dL_sum_226 rfl ?_
              refine lv_ladd hx hb dL_sum_227 ?_
              refine lv_bipush (v := 100) hx hb dL_sum_228 (by decide) ?_
              refine lv_aload_n hx hb dL_sum_230 rfl (lv_at hl 2 rfl) ?_
              refine lv_iload_n hx hb dL_sum_231 rfl (lv_at hl 0 rfl) ?_
              refine lq_SW S9 hLF (q_eventBath l G cy kS vS a V k ho hk9) (bigSW 2 hts (big_at 44 21 rfl) (big_at 0 2 rfl) (big_at 44 23 rfl) (big_at 44 22 rfl) rfl rfl (by decide +kernel) ⟨Nat.le_of_ble_eq_true rfl, Nat.le_of_ble_eq_true rfl⟩) hP hD hS hA rfl hl.1 rfl (Nat.le_of_ble_eq_true rfl) (MC := 45) ⟨rfl, rfl⟩ (3 * d + 1) (by omega) (by omega) dL_sum_232 (fun u H locs cells slots hc hs hP hD hS => ?_)
              refine lv_imul hx hb dL_sum_235 ?_
              refine lv_i2l hx hb dL_sum_236 rfl ?_
              refine lv_ladd hx hb dL_sum_237 ?_
              refine lv_aload_n hx hb dL_sum_238 rfl (lv_at hl 2 rfl) ?_
              refine lv_iload_n hx hb dL_sum_239 rfl (lv_at hl 0 rfl) ?_
              by_cases l7 : lE V.σ k = -1
              · refine lq_SW S9 hLF (q_eventLitres_2 l G cy kS vS a V k hl9 ho hk9 l7) (bigSW 2 hts (big_at 45 5 rfl) (big_at 0 2 rfl) (big_at 45 7 rfl) (big_at 45 6 rfl) rfl rfl (by decide +kernel) ⟨Nat.le_of_ble_eq_true rfl, Nat.le_of_ble_eq_true rfl⟩) hP hD hS hA rfl hl.1 rfl (Nat.le_of_ble_eq_true rfl) (MC := 45) ⟨rfl, rfl⟩ (3 * d + 0) (by omega) (by omega) dL_sum_240 (fun u H locs cells slots hc hs hP hD hS => ?_)
                refine lv_i2l hx hb dL_sum_243 rfl ?_
                refine lv_ladd hx hb dL_sum_244 ?_
                refine lv_lstore_n (lv' := [(1, .long ((((47 * (smE V.σ k)) + ((10000 * (kE V.σ k)).toInt64)) + ((100 * (bE V.σ k)).toInt64)) + (((-13) : Int32).toInt64))), (3, .int (nI k)), (0, .ref a.aX)]) hx hb dL_sum_245 rfl hl (by decide) rfl (fun ls hl => ?_)
                refine lv_iinc (v := nI (k + 1)) (lv' := [(3, .int (nI (k + 1))), (1, .long ((((47 * (smE V.σ k)) + ((10000 * (kE V.σ k)).toInt64)) + ((100 * (bE V.σ k)).toInt64)) + (((-13) : Int32).toInt64))), (0, .ref a.aX)]) hx hb dL_sum_246 hl (k := 1) rfl (m_inc _) (by decide) rfl (fun ls hl => ?_)
                refine lv_goto (tgt := 204) hx hb dL_sum_249 (by decide) ?_
                have e204_1 : smE V.σ (k + 1) = (((47 * (smE V.σ k)) + ((10000 * (kE V.σ k)).toInt64)) + ((100 * (bE V.σ k)).toInt64)) + (((-13) : Int32).toInt64) := (by simp only [smE, evL]; rw [if_pos l7])
                exact ih (k + 1) (by omega) _ _ _ _ _ (by omega) (by omega) hP hD hS ls (by rw [e204_1]; exact lv_sub hl [0, 1, 2] rfl)
              · refine lq_SW S9 hLF (q_eventLitres l G cy kS vS a V k ho hk9 l7) (bigSW 2 hts (big_at 45 5 rfl) (big_at 0 2 rfl) (big_at 45 7 rfl) (big_at 45 6 rfl) rfl rfl (by decide +kernel) ⟨Nat.le_of_ble_eq_true rfl, Nat.le_of_ble_eq_true rfl⟩) hP hD hS hA rfl hl.1 rfl (Nat.le_of_ble_eq_true rfl) (MC := 45) ⟨rfl, rfl⟩ (3 * d + 0) (by omega) (by omega) dL_sum_240 (fun u H locs cells slots hc hs hP hD hS => ?_)
                refine lv_i2l hx hb dL_sum_243 rfl ?_
                refine lv_ladd hx hb dL_sum_244 ?_
                refine lv_lstore_n (lv' := [(1, .long ((((47 * (smE V.σ k)) + ((10000 * (kE V.σ k)).toInt64)) + ((100 * (bE V.σ k)).toInt64)) + ((lE V.σ k).toInt64))), (3, .int (nI k)), (0, .ref a.aX)]) hx hb dL_sum_245 rfl hl (by decide) rfl (fun ls hl => ?_)
                refine lv_iinc (v := nI (k + 1)) (lv' := [(3, .int (nI (k + 1))), (1, .long ((((47 * (smE V.σ k)) + ((10000 * (kE V.σ k)).toInt64)) + ((100 * (bE V.σ k)).toInt64)) + ((lE V.σ k).toInt64))), (0, .ref a.aX)]) hx hb dL_sum_246 hl (k := 1) rfl (m_inc _) (by decide) rfl (fun ls hl => ?_)
                refine lv_goto (tgt := 204) hx hb dL_sum_249 (by decide) ?_
                have e204_1 : smE V.σ (k + 1) = (((47 * (smE V.σ k)) + ((10000 * (kE V.σ k)).toInt64)) + ((100 * (bE V.σ k)).toInt64)) + ((lE V.σ k).toInt64) := (by simp only [smE, evL]; rw [if_neg l7])
                exact ih (k + 1) (by omega) _ _ _ _ _ (by omega) (by omega) hP hD hS ls (by rw [e204_1]; exact lv_sub hl [0, 1, 2] rfl)
          have e204_1 : smE V.σ 0 = smD V.σ (nD V.σ) := rfl
          exact L204 (nE V.σ) 0 (by omega) _ _ _ _ _ (by omega) (by omega) hP hD hS ls (by rw [e204_1]; exact lv_sub hl [0, 1, 2] rfl)
        | succ d ih =>
          intro k hk u H locs cells slots hc hs hP hD hS ls hl
          have hk9 : k < nD V.σ := by omega
          refine lv_iload_n hx hb dL_sum_141 rfl (lv_at hl 0 rfl) ?_
          refine lv_aload_n hx hb dL_sum_142 rfl (lv_at hl 2 rfl) ?_
          refine lq_V S9 hLF (d_duckCount l G cy kS vS a V ho) (bigV 0 hts (big_at 26 3 rfl) (big_at 0 6 rfl) (big_at 26 6 rfl) (big_at 26 4 rfl) (big_at 26 5 rfl) rfl rfl (by decide +kernel) ⟨Nat.le_of_ble_eq_true rfl, Nat.le_of_ble_eq_true rfl⟩) hP hD hS hA rfl hl.1 rfl (Nat.le_of_ble_eq_true rfl) (MC := 45) ⟨rfl, rfl⟩ (0 * d + 30) (by omega) (by omega) dL_sum_143 (fun u H locs cells slots hc hs hP hD hS => ?_)
          refine lv_icmp_ge (tgt := 202) hx hb dL_sum_146 (by decide) (fun c9 => absurd c9 (fun q => absurd ((nI_leI (by omega) (by omega)).mp q) (by omega))) (fun _ => ?_)
          refine lv_ldc2 hx hb hown (hts _ (big_at 45 23 rfl : Cond.constantLong RL 395 41 ∈ wsL_law)) dL_sum_149 ?_
          refine lv_lload_n hx hb dL_sum_152 rfl (lv_at hl 1 rfl) ?_
          refine lv_lmul hx hb dL_sum_153 ?_
          refine lv_sipush (v := 10000) hx hb dL_sum_154 (by decide) ?_
          refine lv_aload_n hx hb dL_sum_157 rfl (lv_at hl 2 rfl) ?_
          refine lv_iload_n hx hb dL_sum_158 rfl (lv_at hl 0 rfl) ?_
          refine lq_V S9 hLF (d_observedBath l G cy kS vS a V k ho hk9) (bigV 1 hts (big_at 26 12 rfl) (big_at 0 6 rfl) (big_at 26 15 rfl) (big_at 26 13 rfl) (big_at 26 14 rfl) rfl rfl (by decide +kernel) ⟨Nat.le_of_ble_eq_true rfl, Nat.le_of_ble_eq_true rfl⟩) hP hD hS hA rfl hl.1 rfl (Nat.le_of_ble_eq_true rfl) (MC := 45) ⟨rfl, rfl⟩ (0 * d + 30) (by omega) (by omega) dL_sum_159 (fun u H locs cells slots hc hs hP hD hS => ?_)
          refine lv_imul hx hb dL_sum_162 ?_
          refine lv_i2l hx hb dL_sum_163 rfl ?_
          refine lv_ladd hx hb dL_sum_164 ?_
          refine lv_bipush (v := 100) hx hb dL_sum_165 (by decide) ?_
          refine lv_aload_n hx hb dL_sum_167 rfl (lv_at hl 2 rfl) ?_
          refine lv_iload_n hx hb dL_sum_168 rfl (lv_at hl 0 rfl) ?_
          refine lq_V S9 hLF (d_lowerBound l G cy kS vS a V k ho hk9) (bigV 1 hts (big_at 27 0 rfl) (big_at 0 6 rfl) (big_at 27 3 rfl) (big_at 27 1 rfl) (big_at 27 2 rfl) rfl rfl (by decide +kernel) ⟨Nat.le_of_ble_eq_true rfl, Nat.le_of_ble_eq_true rfl⟩) hP hD hS hA rfl hl.1 rfl (Nat.le_of_ble_eq_true rfl) (MC := 45) ⟨rfl, rfl⟩ (0 * d + 30) (by omega) (by omega) dL_sum_169 (fun u H locs cells slots hc hs hP hD hS => ?_)
          refine lv_imul hx hb dL_sum_172 ?_
          refine lv_i2l hx hb dL_sum_173 rfl ?_
          refine lv_ladd hx hb dL_sum_174 ?_
          refine lv_aload_n hx hb dL_sum_175 rfl (lv_at hl 2 rfl) ?_
          refine lv_iload_n hx hb dL_sum_176 rfl (lv_at hl 0 rfl) ?_
          refine lq_V S9 hLF (d_upperBound l G cy kS vS a V k ho hk9) (bigV 1 hts (big_at 27 8 rfl) (big_at 0 6 rfl) (big_at 27 11 rfl) (big_at 27 9 rfl) (big_at 27 10 rfl) rfl rfl (by decide +kernel) ⟨Nat.le_of_ble_eq_true rfl, Nat.le_of_ble_eq_true rfl⟩) hP hD hS hA rfl hl.1 rfl (Nat.le_of_ble_eq_true rfl) (MC := 45) ⟨rfl, rfl⟩ (0 * d + 30) (by omega) (by omega) dL_sum_177 (fun u H locs cells slots hc hs hP hD hS => ?_)
          refine lv_i2l hx hb dL_sum_180 rfl ?_
          refine lv_ladd hx hb dL_sum_181 ?_
          refine lv_lstore_n (lv' := [(1, .long ((((41 * (smD V.σ k)) + ((10000 * (bD V.σ k)).toInt64)) + ((100 * (lD V.σ k)).toInt64)) + ((uD V.σ k).toInt64))), (3, .int (nI k)), (0, .ref a.aX)]) hx hb dL_sum_182 rfl hl (by decide) rfl (fun ls hl => ?_)
          refine lv_ldc2 hx hb hown (hts _ (big_at 46 0 rfl : Cond.constantLong RL 397 43 ∈ wsL_law)) dL_sum_183 ?_
          refine lv_lload_n hx hb dL_sum_186 rfl (lv_at hl 0 rfl) ?_
          refine lv_lmul hx hb dL_sum_187 ?_
          refine lv_aload_n hx hb dL_sum_188 rfl (lv_at hl 2 rfl) ?_
          refine lv_iload_n hx hb dL_sum_189 rfl (lv_at hl 1 rfl) ?_
          refine lq_V S9 hLF (d_quacks l G cy kS vS a V k ho hk9) (bigV 1 hts (big_at 28 0 rfl) (big_at 0 6 rfl) (big_at 28 3 rfl) (big_at 28 1 rfl) (big_at 28 2 rfl) rfl rfl (by decide +kernel) ⟨Nat.le_of_ble_eq_true rfl, Nat.le_of_ble_eq_true rfl⟩) hP hD hS hA rfl hl.1 rfl (Nat.le_of_ble_eq_true rfl) (MC := 45) ⟨rfl, rfl⟩ (0 * d + 30) (by omega) (by omega) dL_sum_190 (fun u H locs cells slots hc hs hP hD hS => ?_)
          refine lv_i2l hx hb dL_sum_193 rfl ?_
          refine lv_ladd hx hb dL_sum_194 ?_
          refine lv_lstore_n (lv' := [(1, .long ((43 * ((((41 * (smD V.σ k)) + ((10000 * (bD V.σ k)).toInt64)) + ((100 * (lD V.σ k)).toInt64)) + ((uD V.σ k).toInt64))) + ((qD V.σ k).toInt64))), (3, .int (nI k)), (0, .ref a.aX)]) hx hb dL_sum_195 rfl hl (by decide) rfl (fun ls hl => ?_)
          refine lv_iinc (v := nI (k + 1)) (lv' := [(3, .int (nI (k + 1))), (1, .long ((43 * ((((41 * (smD V.σ k)) + ((10000 * (bD V.σ k)).toInt64)) + ((100 * (lD V.σ k)).toInt64)) + ((uD V.σ k).toInt64))) + ((qD V.σ k).toInt64))), (0, .ref a.aX)]) hx hb dL_sum_196 hl (k := 1) rfl (m_inc _) (by decide) rfl (fun ls hl => ?_)
          refine lv_goto (tgt := 141) hx hb dL_sum_199 (by decide) ?_
          have e141_1 : smD V.σ (k + 1) = (43 * ((((41 * (smD V.σ k)) + ((10000 * (bD V.σ k)).toInt64)) + ((100 * (lD V.σ k)).toInt64)) + ((uD V.σ k).toInt64))) + ((qD V.σ k).toInt64) := rfl
          exact ih (k + 1) (by omega) _ _ _ _ _ (by omega) (by omega) hP hD hS ls (by rw [e141_1]; exact lv_sub hl [0, 1, 2] rfl)
      have e141_1 : smD V.σ 0 = smB V.σ (nB V.σ) := rfl
      exact L141 (nD V.σ) 0 (by omega) _ _ _ _ _ (by omega) (by omega) hP hD hS ls (by rw [e141_1]; exact lv_sub hl [0, 3, 4] rfl)
    | succ d ih =>
      intro k hk u H locs cells slots hc hs hP hD hS ls hl
      have hk9 : k < nB V.σ := by omega
      refine lv_iload hx hb dL_sum_82 (lv_at hl 0 rfl) ?_
      refine lv_iload hx hb dL_sum_84 (lv_at hl 1 rfl) ?_
      refine lv_icmp_ge (tgt := 139) hx hb dL_sum_86 (by decide) (fun c9 => absurd c9 (fun q => absurd ((nI_leI (by omega) (by omega)).mp q) (by omega))) (fun _ => ?_)
      refine lv_aload_n hx hb dL_sum_89 rfl (lv_at hl 2 rfl) ?_
      refine lv_iload hx hb dL_sum_90 (lv_at hl 0 rfl) ?_
      refine r_row (Wc := [OW cy a V u, rowsW cy ro ra V.σ]) hx hb hK hP 1 rfl k rfl hk9 hN dL_sum_92 ?_
      refine lv_astore (lv' := [(6, .ref (ra k)), (5, .int (nI k)), (4, .int (nI (nB V.σ))), (3, .ref ro), (1, .long (smB V.σ k)), (0, .ref a.aX)]) hx hb dL_sum_93 hl (by decide) rfl (fun ls hl => ?_)
      refine lv_ldc2 hx hb hown (hts _ (big_at 45 22 rfl : Cond.constantLong RL 393 37 ∈ wsL_law)) dL_sum_95 ?_
      refine lv_lload_n hx hb dL_sum_98 rfl (lv_at hl 4 rfl) ?_
      refine lv_lmul hx hb dL_sum_99 ?_
      refine lv_sipush (v := 10000) hx hb dL_sum_100 (by decide) ?_
      refine lv_aload hx hb dL_sum_103 (lv_at hl 0 rfl) ?_
      refine lv_iconst (v := 0) hx hb dL_sum_105 (by decide) ?_
      refine r_get (Wc := [OW cy a V u, rowsW cy ro ra V.σ]) (v := vB V.σ k) hx hb hK hP 1 rfl k 0 rfl (by decide) hk9 rfl dL_sum_106 ?_
      refine lv_imul hx hb dL_sum_107 ?_
      refine lv_i2l hx hb dL_sum_108 rfl ?_
      refine lv_ladd hx hb dL_sum_109 ?_
      refine lv_iconst (v := 4) hx hb dL_sum_110 (by decide) ?_
      refine lv_aload hx hb dL_sum_111 (lv_at hl 0 rfl) ?_
      refine lv_iconst (v := 1) hx hb dL_sum_113 (by decide) ?_
      refine r_get (Wc := [OW cy a V u, rowsW cy ro ra V.σ]) (v := hB V.σ k) hx hb hK hP 1 rfl k 1 rfl (by decide) hk9 rfl dL_sum_114 ?_
      refine lv_imul hx hb dL_sum_115 ?_
      refine lv_i2l hx hb dL_sum_116 rfl ?_
      refine lv_ladd hx hb dL_sum_117 ?_
      refine lv_iconst (v := 2) hx hb dL_sum_118 (by decide) ?_
      refine lv_aload hx hb dL_sum_119 (lv_at hl 0 rfl) ?_
      refine lv_iconst (v := 2) hx hb dL_sum_121 (by decide) ?_
      refine r_get (Wc := [OW cy a V u, rowsW cy ro ra V.σ]) (v := pB V.σ k) hx hb hK hP 1 rfl k 2 rfl (by decide) hk9 rfl dL_sum_122 ?_
      refine lv_imul hx hb dL_sum_123 ?_
      refine lv_i2l hx hb dL_sum_124 rfl ?_
      refine lv_ladd hx hb dL_sum_125 ?_
      refine lv_aload hx hb dL_sum_126 (lv_at hl 0 rfl) ?_
      refine lv_iconst (v := 3) hx hb dL_sum_128 (by decide) ?_
      refine r_get (Wc := [OW cy a V u, rowsW cy ro ra V.σ]) (v := mB V.σ k) hx hb hK hP 1 rfl k 3 rfl (by decide) hk9 rfl dL_sum_129 ?_
      refine lv_i2l hx hb dL_sum_130 rfl ?_
      refine lv_ladd hx hb dL_sum_131 ?_
      refine lv_lstore_n (lv' := [(1, .long (((((37 * (smB V.σ k)) + ((10000 * (vB V.σ k)).toInt64)) + ((4 * (hB V.σ k)).toInt64)) + ((2 * (pB V.σ k)).toInt64)) + ((mB V.σ k).toInt64))), (6, .ref (ra k)), (5, .int (nI k)), (4, .int (nI (nB V.σ))), (3, .ref ro), (0, .ref a.aX)]) hx hb dL_sum_132 rfl hl (by decide) rfl (fun ls hl => ?_)
      refine lv_iinc (v := nI (k + 1)) (lv' := [(5, .int (nI (k + 1))), (1, .long (((((37 * (smB V.σ k)) + ((10000 * (vB V.σ k)).toInt64)) + ((4 * (hB V.σ k)).toInt64)) + ((2 * (pB V.σ k)).toInt64)) + ((mB V.σ k).toInt64))), (6, .ref (ra k)), (4, .int (nI (nB V.σ))), (3, .ref ro), (0, .ref a.aX)]) hx hb dL_sum_133 hl (k := 2) rfl (m_inc _) (by decide) rfl (fun ls hl => ?_)
      refine lv_goto (tgt := 82) hx hb dL_sum_136 (by decide) ?_
      have e82_1 : smB V.σ (k + 1) = ((((37 * (smB V.σ k)) + ((10000 * (vB V.σ k)).toInt64)) + ((4 * (hB V.σ k)).toInt64)) + ((2 * (pB V.σ k)).toInt64)) + ((mB V.σ k).toInt64) := rfl
      exact ih (k + 1) (by omega) _ _ _ _ _ (by omega) (by omega) hP hD hS ls (by rw [e82_1]; exact lv_sub hl [0, 3, 4, 1, 5] rfl)
  have e82_1 : smB V.σ 0 = (31 * ((31 * ((31 * ((31 * ((31 * (7 + ((tT V.σ).toInt64))) + ((dT V.σ).toInt64))) + ((aT V.σ).toInt64))) + ((rT V.σ).toInt64))) + ((hT V.σ).toInt64))) + ((xT V.σ).toInt64) := rfl
  exact L82 (nB V.σ) 0 (by omega) _ _ _ _ _ (by omega) (by omega) hP hD hS ls (by rw [e82_1]; exact lv_sub hl [0, 1, 2, 3, 4] rfl)
