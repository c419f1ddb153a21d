/-! a text is spelt, a text is typed and run -/
section LDW
variable {p : Program} {l : Launch} {e : Env} {R : Room} {s : State} {m : MethodId} {args : Array Value} {below : List Frame} {meth : Method} {c : Code} {H : Heap} {locs : List Loc} {cells slots : Nat} {Q : State → Prop}
variable {cc : ByteArray} {pc : Nat} {ls : Array Slot} {rest : List Value}
theorem va_ldcSw (hexec : p.tables.exec = Jvm.exec) (hb : c.code = cc) {own tx : String} {index q : Nat} (hown : s.vm.findClass own = some m.cls) (hZ : vk_R own index tx q s) (hdg : decode cc pc = .ok (.ldc_w index, 3))
    (k : W p l e R s m args below meth c H locs cells slots Q (F0 m (pc + 3) ls (.ref q :: rest))) : W p l e R s m args below meth c H locs cells slots Q (F0 m pc ls rest) := by
  intro T hT X
  obtain ⟨t, a1, b1⟩ := k T hT X
  exact ⟨t, X.ldcStringW hexec hown (text := tx) (a := q) hZ.1 hZ.2 (g := F0 m pc ls rest) rfl (by rw [hb]; exact hdg) t a1, b1⟩
end LDW
/-- the words' first fact: the text at hand -/
abbrev EX (bs : List Int32) (x y : Nat) (cy : Nat → ClassId) (a : OA) (V : OV) : OU → State → Prop := fun u U => strI bs.length bs x y (va_A (OW cy a V u) U.heap.size) U U.heap
theorem EX.blind {bs : List Int32} {x y : Nat} {cy : Nat → ClassId} {a : OA} {V : OV} {u : OU} : ∀ (U : State) (g : JFrame) (mk : MethodId) (b : Array Value), EX bs x y cy a V u U → EX bs x y cy a V u (U.calling g mk b) := fun U g mk b h => strI.moved9 (u := U) (U := U.calling g mk b) (Vm.Alike.refl U.vm) h
theorem EX.at {bs : List Int32} {x y : Nat} {cy : Nat → ClassId} {a : OA} {V : OV} {u : OU} {s : State} {H : Heap} (h : strI bs.length bs x y (va_A (OW cy a V u) H.size) s H) : ∀ U : State, U.heap = H → s.WarmedH U.vm → EX bs x y cy a V u U := by
  intro U hU hW
  show strI _ _ _ _ (va_A _ U.heap.size) U U.heap
  rw [show U.heap.size = H.size from congrArg Array.size hU, hU]
  exact h.moved9 hW.alike
theorem strI.ofC {cy : Nat → ClassId} {G : va_G} {A : Nat → Prop} {s : State} {args : Array Value} {H : Heap} {Wr : List va_W} {w : va_W} {x y n : Nat} {g : Nat → Int32} {v2 v3 : Value} {bs : List Int32} (ht : ∀ w ∈ wsL_law, w.before args s = true) (hK : KK G cy s) (hP : va_P G vwCl (fl Wr ++ w) H) (hD : va_D A (fl Wr ++ w)) (j : Nat) (hj : Wr[j]? = some [(x, .inr (0, [.ref y, .int 0, v2, v3])), (y, .inl (cy 0, n, .inl g))]) (hn : bs.length = n) (hn9 : n < 1000) (hg : ∀ k, k < n → g k = bs.getD k 0) : strI bs.length bs x y (va_A w H.size) s H := by
  have h0 : (fl Wr)[offs Wr j + 0]? = some (x, .inr (0, [.ref y, .int 0, v2, v3])) := (fl_at hj (by show 0 < 2; decide)).trans rfl
  have h1 : (fl Wr)[offs Wr j + 1]? = some (y, .inl (cy 0, n, .inl g)) := (fl_at hj (by show 1 < 2; decide)).trans rfl
  have l0 := (List.getElem?_eq_some_iff.mp h0).1
  have l1 := (List.getElem?_eq_some_iff.mp h1).1
  exact strI.of ht hK hP _ _ (by rw [List.getElem?_append_left l0]; exact h0) (by rw [List.getElem?_append_left l1]; exact h1) hn hn9 hg (apart9 hP hD h0) (apart9 hP hD h1)
theorem getD_mem {bs : List Int32} {i : Nat} (hi : i < bs.length) : bs.getD i 0 ∈ bs := by
  rw [List.getD_eq_getElem?_getD, List.getElem?_eq_getElem hi]
  exact List.getElem_mem hi
set_option maxRecDepth 100000 in
set_option maxHeartbeats 2000000 in
theorem n_spells (l : Launch) (G : va_G) (cy : Nat → ClassId) (kS vS : Nat → Nat) (a : OA) (V : OV) (bs : List Int32) (x : Nat) (y : Nat) (hl9 : l.stackTraces = false) (hnb : V.nb = bs.length) (hn16 : bs.length ≤ 16) (hfb : ∀ i, i < bs.length → V.fb i = bs.getD i 0) (hch : ∀ i, i < bs.length → ChrOK (bs.getD i 0)) : LY l yL_spells 14 400 20 G cy kS vS a V (EX bs x y cy a V) [.ref a.aX, .int (nI bs.length), .ref x] (fun V2 r2 => V2 = V ∧ r2 = .int 1) := by
  refine LY.ofW (cc := cL_spells) (maxL := 5) (ret := (some .boolean)) (by decide) (big_at 40 21 rfl) (Nat.le_of_ble_eq_true rfl) ?_
  intro p e s m below meth cq u0 S9 hr hlocks hPQ hT hD hS hA ls hl
  obtain ⟨hx, hb, hml, hown, hts⟩ := id S9
  have hLF := LF.mk hPQ
  have hK := hLF.1
  have hSK := hLF.2.2.2.1
  have hDZ := hLF.2.2.2.2.1
  have hP : va_P G vwCl (fl [OW cy a V u0]) s.heap := hPQ.1.1
  have hD : va_D (va_A (OW cy a V u0) s.heap.size) (fl [OW cy a V u0]) := hD
  have hT : strI bs.length bs x y (va_A (OW cy a V u0) s.heap.size) s s.heap := hT
  have hc : 0 + 20 ≤ 20 := Nat.le_of_ble_eq_true rfl
  have hs : 0 + 64 * 20 ≤ 64 * 20 := Nat.le_of_ble_eq_true rfl
  have hl : lv_has ls 5 [(0, .ref a.aX), (1, .int (nI bs.length)), (2, .ref x)] := hl
  refine lv_iload_n hx hb dL_spells_0 rfl (lv_at hl 1 rfl) ?_
  refine lv_aload_n hx hb dL_spells_1 rfl (lv_at hl 2 rfl) ?_
  refine m_ro (va_runV S9 (z_length l G cy kS vS bs x y (by omega)) (bigV 0 hts (big_at 40 22 rfl) (big_at 32 16 rfl) (big_at 34 4 rfl) (big_at 34 2 rfl) (big_at 34 3 rfl) rfl rfl (by decide +kernel) ⟨Nat.le_of_ble_eq_true rfl, Nat.le_of_ble_eq_true rfl⟩) ⟨fun b2 U g mk q => ⟨q.1, PTx.blind U g mk b2 q.2⟩, (strI.kept9 hT hS (fun q h => h)).recv, fun U hU hW => ⟨rfl, PTx.at (strI.kept9 hT hS (fr_nil hS hA)) hSK hDZ hS (fr_nil hS hA) hK (m_Ppart hP [] rfl) U hU hW⟩⟩ (g := F0 m _ ls _) rfl rfl hl.1 rfl (lv_room (Nat.le_of_ble_eq_true rfl)) dL_spells_2 ⟨(show _ ≤ 20 by omega), (show _ ≤ 64 * 20 by omega)⟩) ?_
  refine lv_icmp_ne (tgt := 12) hx hb dL_spells_5 (by decide) (fun c9 => absurd rfl c9) (fun _ => ?_)
  refine lv_iconst (v := 1) hx hb dL_spells_8 (by decide) ?_
  refine lv_goto (tgt := 13) hx hb dL_spells_9 (by decide) ?_
  refine lv_istore_n (lv' := [(3, .int 1), (0, .ref a.aX), (1, .int (nI bs.length)), (2, .ref x)]) hx hb dL_spells_13 rfl hl (by decide) rfl (fun ls hl => ?_)
  refine lv_iconst (v := 0) hx hb dL_spells_14 (by decide) ?_
  refine lv_istore (lv' := [(4, .int 0), (3, .int 1), (0, .ref a.aX), (1, .int (nI bs.length)), (2, .ref x)]) hx hb dL_spells_15 hl (by decide) rfl (fun ls hl => ?_)
  have L17 : ∀ (d k : Nat), k + d = bs.length → ∀ (u : OU) (H : Heap) (locs : List Loc) (cells slots : Nat), cells + (1 * d + 1) ≤ 20 → slots + 64 * (1 * d + 1) ≤ 64 * 20 → va_P G vwCl (fl [OW cy a V u]) H → va_D (va_A (OW cy a V u0) s.heap.size) (fl [OW cy a V u]) → va_S (va_A (OW cy a V u0) s.heap.size) s.heap H locs → ∀ ls : Array Slot, lv_has ls 5 [(4, .int (nI k)), (3, .int 1), (2, .ref x), (1, .int (nI bs.length)), (0, .ref a.aX)] → W p l e ({ frames := 14, cells := 20, slots := 64 * 20, locals := 400 } : Room) s m ([.ref a.aX, .int (nI bs.length), .ref x] : List Value).toArray below meth cq H locs cells slots (lxZ below ([.ref a.aX, .int (nI bs.length), .ref x] : List Value).toArray s G cy a V u0 (fun V2 r2 => V2 = V ∧ r2 = .int 1) 20) (F0 m 17 ls []) := by
    intro d
    induction d with
    | zero =>
      intro k hk u H locs cells slots hc hs hP hD hS ls hl
      have hk9 : k = bs.length := by omega
      subst hk9
      refine lv_iload hx hb dL_spells_17 (lv_at hl 0 rfl) ?_
      refine lv_aload_n hx hb dL_spells_19 rfl (lv_at hl 2 rfl) ?_
      refine m_ro (va_runV S9 (z_length l G cy kS vS bs x y (by omega)) (bigV 0 hts (big_at 40 22 rfl) (big_at 32 16 rfl) (big_at 34 4 rfl) (big_at 34 2 rfl) (big_at 34 3 rfl) rfl rfl (by decide +kernel) ⟨Nat.le_of_ble_eq_true rfl, Nat.le_of_ble_eq_true rfl⟩) ⟨fun b2 U g mk q => ⟨q.1, PTx.blind U g mk b2 q.2⟩, (strI.kept9 hT hS (fun q h => h)).recv, fun U hU hW => ⟨rfl, PTx.at (strI.kept9 hT hS (fr_nil hS hA)) hSK hDZ hS (fr_nil hS hA) hK (m_Ppart hP [] rfl) U hU hW⟩⟩ (g := F0 m _ ls _) rfl rfl hl.1 rfl (lv_room (Nat.le_of_ble_eq_true rfl)) dL_spells_20 ⟨(show _ ≤ 20 by omega), (show _ ≤ 64 * 20 by omega)⟩) ?_
      refine lv_icmp_ge (tgt := 57) hx hb dL_spells_23 (by decide) (fun _ => ?_) (fun c9 => absurd (Int32.le_refl _) c9)
      refine lv_iload_n hx hb dL_spells_57 rfl (lv_at hl 1 rfl) ?_
      refine lv_if_eq (tgt := 75) hx hb dL_spells_58 (by decide) (fun c9 => absurd c9 (by decide)) (fun _ => ?_)
      refine lv_aload_n hx hb dL_spells_61 rfl (lv_at hl 4 rfl) ?_
      refine lv_iload_n hx hb dL_spells_62 rfl (lv_at hl 3 rfl) ?_
      have ixn : ¬ inR (nI bs.length) 0 (nI V.nb - 1) = true := by rw [hnb, inR_iff]; intro z9; have z8 := z9.2; rw [Int32.lt_iff_toInt_lt, ti_sub (nI_toInt (show bs.length < 2 ^ 31 by omega)) (show (1 : Int32).toInt = 1 from by decide) (by omega) (by omega), nI_toInt (by omega)] at z8; omega
      refine lq_SW S9 hLF (q_outputAt_1 l G cy kS vS a V (nI bs.length) hl9 (by omega) ixn) (bigSW 2 hts (big_at 40 23 rfl) (big_at 0 2 rfl) (big_at 41 1 rfl) (big_at 41 0 rfl) rfl rfl (by decide +kernel) ⟨Nat.le_of_ble_eq_true rfl, Nat.le_of_ble_eq_true rfl⟩) hP hD hS hA rfl hl.1 rfl (Nat.le_of_ble_eq_true rfl) (MC := 20) ⟨rfl, rfl⟩ (0) (by omega) (by omega) dL_spells_63 (fun u H locs cells slots hc hs hP hD hS => ?_)
      refine lv_bipush (v := (-11)) hx hb dL_spells_66 (by decide) ?_
      refine lv_icmp_ne (tgt := 75) hx hb dL_spells_68 (by decide) (fun c9 => absurd (by decide) c9) (fun _ => ?_)
      refine lv_iconst (v := 1) hx hb dL_spells_71 (by decide) ?_
      refine lv_goto (tgt := 76) hx hb dL_spells_72 (by decide) ?_
      exact lx_zret hx hb hr hlocks (by rfl) ⟨rfl, rfl⟩ hP hS (by omega) (by omega) dL_spells_76
    | succ d ih =>
      intro k hk u H locs cells slots hc hs hP hD hS ls hl
      have hk9 : k < bs.length := by omega
      refine lv_iload hx hb dL_spells_17 (lv_at hl 0 rfl) ?_
      refine lv_aload_n hx hb dL_spells_19 rfl (lv_at hl 2 rfl) ?_
      refine m_ro (va_runV S9 (z_length l G cy kS vS bs x y (by omega)) (bigV 0 hts (big_at 40 22 rfl) (big_at 32 16 rfl) (big_at 34 4 rfl) (big_at 34 2 rfl) (big_at 34 3 rfl) rfl rfl (by decide +kernel) ⟨Nat.le_of_ble_eq_true rfl, Nat.le_of_ble_eq_true rfl⟩) ⟨fun b2 U g mk q => ⟨q.1, PTx.blind U g mk b2 q.2⟩, (strI.kept9 hT hS (fun q h => h)).recv, fun U hU hW => ⟨rfl, PTx.at (strI.kept9 hT hS (fr_nil hS hA)) hSK hDZ hS (fr_nil hS hA) hK (m_Ppart hP [] rfl) U hU hW⟩⟩ (g := F0 m _ ls _) rfl rfl hl.1 rfl (lv_room (Nat.le_of_ble_eq_true rfl)) dL_spells_20 ⟨(show _ ≤ 20 by omega), (show _ ≤ 64 * 20 by omega)⟩) ?_
      refine lv_icmp_ge (tgt := 57) hx hb dL_spells_23 (by decide) (fun c9 => absurd c9 (fun q => absurd ((nI_leI (by omega) (by omega)).mp q) (by omega))) (fun _ => ?_)
      refine lv_iload_n hx hb dL_spells_26 rfl (lv_at hl 1 rfl) ?_
      refine lv_if_eq (tgt := 57) hx hb dL_spells_27 (by decide) (fun c9 => absurd c9 (by decide)) (fun _ => ?_)
      refine lv_aload_n hx hb dL_spells_30 rfl (lv_at hl 4 rfl) ?_
      refine lv_iload hx hb dL_spells_31 (lv_at hl 0 rfl) ?_
      have hc7 := hch k hk9
      have hf7 := hfb k hk9
      refine lq_SW S9 hLF (q_outputAt l G cy kS vS a V k (by omega) (by omega) (by rw [hf7]; exact hc7.1) (by rw [hf7]; exact hc7.2)) (bigSW 2 hts (big_at 40 23 rfl) (big_at 0 2 rfl) (big_at 41 1 rfl) (big_at 41 0 rfl) rfl rfl (by decide +kernel) ⟨Nat.le_of_ble_eq_true rfl, Nat.le_of_ble_eq_true rfl⟩) hP hD hS hA rfl hl.1 rfl (Nat.le_of_ble_eq_true rfl) (MC := 20) ⟨rfl, rfl⟩ (1 * d + 1) (by omega) (by omega) dL_spells_33 (fun u H locs cells slots hc hs hP hD hS => ?_)
      refine lv_t0 (show (V.fb k) = bs.getD k 0 from hf7) ?_
      refine lv_aload_n hx hb dL_spells_36 rfl (lv_at hl 2 rfl) ?_
      refine lv_iload hx hb dL_spells_37 (lv_at hl 0 rfl) ?_
      refine m_ro (va_runV S9 (z_charAt l G cy kS vS bs x y k (by omega) hk9 hc7) (bigV 1 hts (big_at 41 17 rfl) (big_at 32 16 rfl) (big_at 41 20 rfl) (big_at 41 18 rfl) (big_at 41 19 rfl) rfl rfl (by decide +kernel) ⟨Nat.le_of_ble_eq_true rfl, Nat.le_of_ble_eq_true rfl⟩) ⟨fun b2 U g mk q => ⟨q.1, PTx.blind U g mk b2 q.2⟩, (strI.kept9 hT hS (fun q h => h)).recv, fun U hU hW => ⟨rfl, PTx.at (strI.kept9 hT hS (fr_nil hS hA)) hSK hDZ hS (fr_nil hS hA) hK (m_Ppart hP [] rfl) U hU hW⟩⟩ (g := F0 m _ ls _) rfl rfl hl.1 rfl (lv_room (Nat.le_of_ble_eq_true rfl)) dL_spells_39 ⟨(show _ ≤ 20 by omega), (show _ ≤ 64 * 20 by omega)⟩) ?_
      refine lv_icmp_ne (tgt := 49) hx hb dL_spells_42 (by decide) (fun c9 => absurd rfl c9) (fun _ => ?_)
      refine lv_iconst (v := 1) hx hb dL_spells_45 (by decide) ?_
      refine lv_goto (tgt := 50) hx hb dL_spells_46 (by decide) ?_
      refine lv_istore_n (lv' := [(3, .int 1), (4, .int (nI k)), (2, .ref x), (1, .int (nI bs.length)), (0, .ref a.aX)]) hx hb dL_spells_50 rfl hl (by decide) rfl (fun ls hl => ?_)
      refine lv_iinc (v := nI (k + 1)) (lv' := [(4, .int (nI (k + 1))), (3, .int 1), (2, .ref x), (1, .int (nI bs.length)), (0, .ref a.aX)]) hx hb dL_spells_51 hl (k := 1) rfl (m_inc _) (by decide) rfl (fun ls hl => ?_)
      refine lv_goto (tgt := 17) hx hb dL_spells_54 (by decide) ?_
      exact ih (k + 1) (by omega) _ _ _ _ _ (by omega) (by omega) hP hD hS ls (lv_sub hl [0, 1, 2, 3, 4] rfl)
  exact L17 (bs.length) 0 (by omega) _ _ _ _ _ (by omega) (by omega) hP hD hS ls (lv_sub hl [0, 1, 4, 3, 2] rfl)
set_option maxRecDepth 100000 in
set_option maxHeartbeats 2000000 in
theorem n_run (l : Launch) (G : va_G) (cy : Nat → ClassId) (kS vS : Nat → Nat) (a : OA) (V : OV) (bs : List Int32) (x : Nat) (y : Nat) (n0 : Nat) (hl9 : l.stackTraces = false) (hI : Inv n0 V.σ) (hn0 : n0 + 2000 < 2147483648) (hLN : V.LN = 0) (hcz : czN 60 V.f) (hnx : V.nx < 8) (hct : V.ct ≤ 8) (hb60 : bs.length ≤ 60) (hch : ∀ i, i < bs.length → ChrOK (bs.getD i 0) ∧ inR (bs.getD i 0) 32 126 = true) : LY l yL_run 14 400 70 G cy kS vS a V (EX bs x y cy a V) [.ref a.aX, .ref x] (fun V2 r2 => (∃ (n9 : Nat) (τ9 : St) (f9 : Nat → Int32), V2 = OV.mk τ9 (updR V.ρ V.nx V.σ) ((V.nx + 1) % 8) (kInc V.ct) 0 f9 V.nb V.fb ∧ r2 = .int (nI n9) ∧ n9 ≤ 13 ∧ Inv (n0 + 260) τ9 ∧ czN 60 f9) ∨ (∃ f9 : Nat → Int32, V2 = OV.mk V.σ V.ρ V.nx V.ct 0 f9 V.nb V.fb ∧ (r2 = .int (-1) ∨ r2 = .int (-2)) ∧ czN 60 f9)) := by
  refine LY.ofW (cc := cL_run) (maxL := 3) (ret := (some .int)) (by decide) (big_at 47 20 rfl) (Nat.le_of_ble_eq_true rfl) ?_
  intro p e s m below meth cq u0 S9 hr hlocks hPQ hT hD hS hA ls hl
  obtain ⟨hx, hb, hml, hown, hts⟩ := id S9
  have hLF := LF.mk hPQ
  have hK := hLF.1
  have hSK := hLF.2.2.2.1
  have hDZ := hLF.2.2.2.2.1
  have hP : va_P G vwCl (fl [OW cy a V u0]) s.heap := hPQ.1.1
  have hD : va_D (va_A (OW cy a V u0) s.heap.size) (fl [OW cy a V u0]) := hD
  have hT : strI bs.length bs x y (va_A (OW cy a V u0) s.heap.size) s s.heap := hT
  have hc : 0 + 70 ≤ 70 := Nat.le_of_ble_eq_true rfl
  have hs : 0 + 64 * 70 ≤ 64 * 70 := Nat.le_of_ble_eq_true rfl
  have hl : lv_has ls 3 [(0, .ref a.aX), (1, .ref x)] := hl
  refine lv_iconst (v := 0) hx hb dL_run_0 (by decide) ?_
  refine lv_istore_n (lv' := [(2, .int 0), (0, .ref a.aX), (1, .ref x)]) hx hb dL_run_1 rfl hl (by decide) rfl (fun ls hl => ?_)
  have L2 : ∀ (d k : Nat), k + d = bs.length → ∀ (u : OU) (f9 : Nat → Int32) (H : Heap) (locs : List Loc) (cells slots : Nat), (czN 60 f9) → cells + (1 * d + 2) ≤ 70 → slots + 64 * (1 * d + 2) ≤ 64 * 70 → va_P G vwCl (fl [OW cy a (OV.mk V.σ V.ρ V.nx V.ct k f9 V.nb V.fb) u]) H → va_D (va_A (OW cy a V u0) s.heap.size) (fl [OW cy a (OV.mk V.σ V.ρ V.nx V.ct k f9 V.nb V.fb) u]) → va_S (va_A (OW cy a V u0) s.heap.size) s.heap H locs → ∀ ls : Array Slot, lv_has ls 3 [(2, .int (nI k)), (1, .ref x), (0, .ref a.aX)] → W p l e ({ frames := 14, cells := 70, slots := 64 * 70, locals := 400 } : Room) s m ([.ref a.aX, .ref x] : List Value).toArray below meth cq H locs cells slots (lxZ below ([.ref a.aX, .ref x] : List Value).toArray s G cy a V u0 (fun V2 r2 => (∃ (n9 : Nat) (τ9 : St) (f9 : Nat → Int32), V2 = OV.mk τ9 (updR V.ρ V.nx V.σ) ((V.nx + 1) % 8) (kInc V.ct) 0 f9 V.nb V.fb ∧ r2 = .int (nI n9) ∧ n9 ≤ 13 ∧ Inv (n0 + 260) τ9 ∧ czN 60 f9) ∨ (∃ f9 : Nat → Int32, V2 = OV.mk V.σ V.ρ V.nx V.ct 0 f9 V.nb V.fb ∧ (r2 = .int (-1) ∨ r2 = .int (-2)) ∧ czN 60 f9)) 70) (F0 m 2 ls []) := by
    intro d
    induction d with
    | zero =>
      intro k hk u f9 H locs cells slots hf9 hc hs hP hD hS ls hl
      have hk9 : k = bs.length := by omega
      subst hk9
      refine lv_iload_n hx hb dL_run_2 rfl (lv_at hl 0 rfl) ?_
      refine lv_aload_n hx hb dL_run_3 rfl (lv_at hl 1 rfl) ?_
      refine m_ro (va_runV S9 (z_length l G cy kS vS bs x y (by omega)) (bigV 0 hts (big_at 40 22 rfl) (big_at 32 16 rfl) (big_at 34 4 rfl) (big_at 34 2 rfl) (big_at 34 3 rfl) rfl rfl (by decide +kernel) ⟨Nat.le_of_ble_eq_true rfl, Nat.le_of_ble_eq_true rfl⟩) ⟨fun b2 U g mk q => ⟨q.1, PTx.blind U g mk b2 q.2⟩, (strI.kept9 hT hS (fun q h => h)).recv, fun U hU hW => ⟨rfl, PTx.at (strI.kept9 hT hS (fr_nil hS hA)) hSK hDZ hS (fr_nil hS hA) hK (m_Ppart hP [] rfl) U hU hW⟩⟩ (g := F0 m _ ls _) rfl rfl hl.1 rfl (lv_room (Nat.le_of_ble_eq_true rfl)) dL_run_4 ⟨(show _ ≤ 70 by omega), (show _ ≤ 64 * 70 by omega)⟩) ?_
      refine lv_icmp_ge (tgt := 34) hx hb dL_run_7 (by decide) (fun _ => ?_) (fun c9 => absurd (Int32.le_refl _) c9)
      refine lv_aload_n hx hb dL_run_34 rfl (lv_at hl 2 rfl) ?_
      refine lx_SW S9 hLF (n_runs l G cy kS vS a (OV.mk V.σ V.ρ V.nx V.ct bs.length f9 V.nb V.fb) n0 hl9 hI hn0 hb60 hf9 hnx hct) (bigSW 1 hts (big_at 48 9 rfl) (big_at 0 2 rfl) (big_at 48 11 rfl) (big_at 48 10 rfl) rfl rfl (by decide +kernel) ⟨Nat.le_of_ble_eq_true rfl, Nat.le_of_ble_eq_true rfl⟩) hP hD hS hA rfl hl.1 rfl (Nat.le_of_ble_eq_true rfl) (MC := 70) ⟨rfl, rfl⟩ (1) (by omega) (by omega) dL_run_35 (fun V2 r2 u H locs cells slots hR hc hs hP hD hS => ?_)
      rcases hR with ⟨n9, τ9, e1, e2, h9, hI9⟩ | ⟨e1, e2 | e2⟩
      · subst e1
        subst e2
        exact lx_iret (ex := []) hx hb hr hlocks (Or.inl ⟨n9, τ9, f9, rfl, rfl, h9, hI9, hf9⟩) hP hS (by omega) (by omega) dL_run_38
      · subst e1
        subst e2
        exact lx_iret (ex := []) hx hb hr hlocks (Or.inr ⟨f9, rfl, Or.inl rfl, hf9⟩) hP hS (by omega) (by omega) dL_run_38
      · subst e1
        subst e2
        exact lx_iret (ex := []) hx hb hr hlocks (Or.inr ⟨f9, rfl, Or.inr rfl, hf9⟩) hP hS (by omega) (by omega) dL_run_38
    | succ d ih =>
      intro k hk u f9 H locs cells slots hf9 hc hs hP hD hS ls hl
      have hk9 : k < bs.length := by omega
      refine lv_iload_n hx hb dL_run_2 rfl (lv_at hl 0 rfl) ?_
      refine lv_aload_n hx hb dL_run_3 rfl (lv_at hl 1 rfl) ?_
      refine m_ro (va_runV S9 (z_length l G cy kS vS bs x y (by omega)) (bigV 0 hts (big_at 40 22 rfl) (big_at 32 16 rfl) (big_at 34 4 rfl) (big_at 34 2 rfl) (big_at 34 3 rfl) rfl rfl (by decide +kernel) ⟨Nat.le_of_ble_eq_true rfl, Nat.le_of_ble_eq_true rfl⟩) ⟨fun b2 U g mk q => ⟨q.1, PTx.blind U g mk b2 q.2⟩, (strI.kept9 hT hS (fun q h => h)).recv, fun U hU hW => ⟨rfl, PTx.at (strI.kept9 hT hS (fr_nil hS hA)) hSK hDZ hS (fr_nil hS hA) hK (m_Ppart hP [] rfl) U hU hW⟩⟩ (g := F0 m _ ls _) rfl rfl hl.1 rfl (lv_room (Nat.le_of_ble_eq_true rfl)) dL_run_4 ⟨(show _ ≤ 70 by omega), (show _ ≤ 64 * 70 by omega)⟩) ?_
      refine lv_icmp_ge (tgt := 34) hx hb dL_run_7 (by decide) (fun c9 => absurd c9 (fun q => absurd ((nI_leI (by omega) (by omega)).mp q) (by omega))) (fun _ => ?_)
      have hc7 := hch k hk9
      refine lv_aload_n hx hb dL_run_10 rfl (lv_at hl 2 rfl) ?_
      refine lv_aload_n hx hb dL_run_11 rfl (lv_at hl 1 rfl) ?_
      refine lv_iload_n hx hb dL_run_12 rfl (lv_at hl 0 rfl) ?_
      refine m_ro (va_runV S9 (z_charAt l G cy kS vS bs x y k (by omega) hk9 hc7.1) (bigV 1 hts (big_at 41 17 rfl) (big_at 32 16 rfl) (big_at 41 20 rfl) (big_at 41 18 rfl) (big_at 41 19 rfl) rfl rfl (by decide +kernel) ⟨Nat.le_of_ble_eq_true rfl, Nat.le_of_ble_eq_true rfl⟩) ⟨fun b2 U g mk q => ⟨q.1, PTx.blind U g mk b2 q.2⟩, (strI.kept9 hT hS (fun q h => h)).recv, fun U hU hW => ⟨rfl, PTx.at (strI.kept9 hT hS (fr_nil hS hA)) hSK hDZ hS (fr_nil hS hA) hK (m_Ppart hP [] rfl) U hU hW⟩⟩ (g := F0 m _ ls _) rfl rfl hl.1 rfl (lv_room (Nat.le_of_ble_eq_true rfl)) dL_run_13 ⟨(show _ ≤ 70 by omega), (show _ ≤ 64 * 70 by omega)⟩) ?_
      refine lq_SW S9 hLF (q_type l G cy kS vS a (OV.mk V.σ V.ρ V.nx V.ct k f9 V.nb V.fb) (bs.getD k 0) hc7.2 (show k < 60 by omega) hc7.1.2) (bigSW 2 hts (big_at 47 21 rfl) (big_at 0 2 rfl) (big_at 47 23 rfl) (big_at 47 22 rfl) rfl rfl (by decide +kernel) ⟨Nat.le_of_ble_eq_true rfl, Nat.le_of_ble_eq_true rfl⟩) hP hD hS hA rfl hl.1 rfl (Nat.le_of_ble_eq_true rfl) (MC := 70) ⟨rfl, rfl⟩ (1 * d + 2) (by omega) (by omega) dL_run_16 (fun u H locs cells slots hc hs hP hD hS => ?_)
      have hP : va_P G vwCl (fl [OW cy a (OV.mk V.σ V.ρ V.nx V.ct (k + 1) (upd f9 k (bs.getD k 0)) V.nb V.fb) u]) H := hP
      have hD : va_D (va_A (OW cy a V u0) s.heap.size) (fl [OW cy a (OV.mk V.σ V.ρ V.nx V.ct (k + 1) (upd f9 k (bs.getD k 0)) V.nb V.fb) u]) := hD
      refine lv_iload_n hx hb dL_run_19 rfl (lv_at hl 0 rfl) ?_
      refine lv_iconst (v := 1) hx hb dL_run_20 (by decide) ?_
      refine lv_iadd hx hb dL_run_21 ?_
      refine lv_icmp_eq (tgt := 28) hx hb dL_run_22 (by decide) (fun _ => ?_) (fun c9 => absurd (nI_1 k).symm c9)
      refine lv_iinc (v := nI (k + 1)) (lv' := [(2, .int (nI (k + 1))), (1, .ref x), (0, .ref a.aX)]) hx hb dL_run_28 hl (k := 0) rfl (m_inc _) (by decide) rfl (fun ls hl => ?_)
      refine lv_goto (tgt := 2) hx hb dL_run_31 (by decide) ?_
      exact ih (k + 1) (by omega) _ (upd f9 k (bs.getD k 0)) _ _ _ _ (czN_upd hf9 hc7.1.2) (by omega) (by omega) hP hD hS ls (lv_sub hl [0, 1, 2] rfl)
  have eV : OV.mk V.σ V.ρ V.nx V.ct 0 V.f V.nb V.fb = V := by rw [← hLN]
  have hP : va_P G vwCl (fl [OW cy a (OV.mk V.σ V.ρ V.nx V.ct 0 V.f V.nb V.fb) u0]) s.heap := by rw [eV]; exact hP
  have hD : va_D (va_A (OW cy a V u0) s.heap.size) (fl [OW cy a (OV.mk V.σ V.ρ V.nx V.ct 0 V.f V.nb V.fb) u0]) := by rw [eV]; exact hD
  exact L2 (bs.length) 0 (by omega) _ V.f _ _ _ _ hcz (by omega) (by omega) hP hD hS ls (lv_sub hl [0, 2, 1] rfl)
