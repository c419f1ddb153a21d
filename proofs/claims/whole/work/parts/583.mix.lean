/-! the rules of the law's calls, said over its own world -/
def SameA (c d : va_W) : Prop := c.map Prod.fst = d.map Prod.fst
theorem SameA.rf {c : va_W} : SameA c c := rfl
theorem SameA.one {x : Nat} {u v : va_E} : SameA [(x, u)] [(x, v)] := rfl
theorem SameA.st {cy : Nat → ClassId} {a : Nat → Nat} {σ τ : St} : SameA (sWd cy a σ) (sWd cy a τ) := rfl
theorem SameA.ring {cy : Nat → ClassId} {ra : Nat → Nat → Nat} {ρ ρ' : Nat → St} : SameA (ringW cy ra ρ) (ringW cy ra ρ') := by
  unfold SameA ringW ringC
  rw [List.map_flatten, List.map_flatten, List.map_map, List.map_map]
  exact congrArg List.flatten (List.map_congr_left (fun k _ => SameA.st (cy := cy) (a := ra k) (σ := ρ k) (τ := ρ' k)))
def SameL : List va_W → List va_W → Prop
  | [], [] => True
  | c :: cs, d :: ds => SameA c d ∧ SameL cs ds
  | [], _ :: _ => False
  | _ :: _, [] => False
theorem SameL.nil : SameL [] [] := trivial
theorem SameL.cons {c d : va_W} {cs ds : List va_W} (h : SameA c d) (t : SameL cs ds) : SameL (c :: cs) (d :: ds) := ⟨h, t⟩
theorem SameL.len : ∀ {cs ds : List va_W}, SameL cs ds → cs.map List.length = ds.map List.length
  | [], [], _ => rfl
  | c :: cs, d :: ds, h => by
    have e : c.length = d.length := by
      have := congrArg List.length h.1
      rwa [List.length_map, List.length_map] at this
    rw [List.map_cons, List.map_cons, e, SameL.len h.2]
  | [], _ :: _, h => h.elim
  | _ :: _, [], h => h.elim
theorem SameL.flat : ∀ {cs ds : List va_W}, SameL cs ds → cs.flatten.map Prod.fst = ds.flatten.map Prod.fst
  | [], [], _ => rfl
  | c :: cs, d :: ds, h => by
    have e : c.map Prod.fst = d.map Prod.fst := h.1
    rw [List.flatten_cons, List.flatten_cons, List.map_append, List.map_append, e, SameL.flat h.2]
  | [], _ :: _, h => h.elim
  | _ :: _, [], h => h.elim
theorem SameL.fst {cs ds : List va_W} (h : SameL cs ds) : (fl cs).map Prod.fst = (fl ds).map Prod.fst := by
  rw [fl_eq, fl_eq]
  exact h.flat
/-- a world of single cells -/
def ones (w : va_W) : List va_W := w.map fun x => [x]
theorem ones_fl : ∀ w : va_W, fl (ones w) = w := fun w => by
  rw [fl_eq]
  unfold ones
  induction w with
  | nil => rfl
  | cons x w ih => rw [List.map_cons, List.flatten_cons, ih]; rfl
theorem SameR.nil : SameL (ones []) (ones []) := trivial
theorem SameR.cons {x : Nat} {u v : va_E} {w1 w : va_W} (t : SameL (ones w1) (ones w)) : SameL (ones ((x, u) :: w1)) (ones ((x, v) :: w)) := ⟨SameA.one, t⟩
theorem LI.of {n : Nat} {s S : LwS} (h : LI n s) (e1 : S.σ = s.σ) (e2 : S.ς = s.ς) (e3 : S.ρ = s.ρ) (e4 : S.hs = s.hs) (e5 : S.fV = s.fV) (e6 : S.nx = s.nx) (e7 : S.ct = s.ct) (e8 : S.fP = s.fP) (e9 : S.ep = s.ep) (e10 : S.fc = s.fc) (e11 : S.LN = s.LN) (e12 : S.f = s.f) (e13 : S.nb = s.nb) (e14 : S.fO = s.fO) (e15 : S.fb = s.fb) : LI n S := by
  unfold LI at h ⊢
  rw [e1, e2, e3, e4, e5, e6, e7, e8, e9, e10, e11, e12, e13, e14, e15]
  exact h
theorem LCh.left {cy : Nat → ClassId} {a : LA} {S s t : LwS} (e1 : S.σ = s.σ) (e2 : S.υ = s.υ) (e3 : S.ς = s.ς) (e4 : S.hs = s.hs) (e5 : S.ep = s.ep) (e6 : S.fc = s.fc) (e7 : S.ml = s.ml) (e8 : S.nx = s.nx) (e9 : S.ct = s.ct) (e10 : S.nb = s.nb) (e11 : S.n = s.n) (e12 : S.LN = s.LN) (e13 : S.ρ = s.ρ) (e14 : S.x = s.x) (e15 : S.f = s.f) (e16 : S.gk = s.gk) (e17 : S.g1 = s.g1) (e18 : S.g2 = s.g2) (e19 : S.g3 = s.g3) (e20 : S.fb = s.fb) (e21 : S.fo = s.fo) (e22 : S.fd = s.fd) : LCh cy a S t = LCh cy a s t := by
  unfold LCh
  rw [e1, e2, e3, e4, e5, e6, e7, e8, e9, e10, e11, e12, e13, e14, e15, e16, e17, e18, e19, e20, e21, e22]
theorem LCh.right {cy : Nat → ClassId} {a : LA} {S s t : LwS} (e1 : S.σ = t.σ) (e4 : S.hs = t.hs) (e5 : S.ep = t.ep) (e6 : S.fc = t.fc) (e8 : S.th = t.th) (e9 : S.ct = t.ct) (e10 : S.nb = t.nb) (e12 : S.LN = t.LN) (e13 : S.CM = t.CM) (e14 : S.x0 = t.x0) (e15 : S.f = t.f) (e16 : S.fB = t.fB) (e17 : S.fA = t.fA) (e18 : S.fV = t.fV) (e19 : S.fP = t.fP) (e20 : S.fO = t.fO) (e21 : S.g = t.g) : LCh cy a s S = LCh cy a s t := by
  unfold LCh
  rw [e1, e4, e5, e6, e8, e9, e10, e12, e13, e14, e15, e16, e17, e18, e19, e20, e21]
section LWR
variable {p : Program} {l : Launch} {e : Env} {s : State} {m : MethodId} {below : List Frame} {meth : Method} {cq : Code} {G : va_G} {cy : Nat → ClassId} {kS vS : Nat → Nat} {A : Nat → Prop} {a : LA} {b L : Nat} {xs : Nat → Int32} {Q : State → Prop} {H : Heap} {locs : List Loc} {cells slots : Nat}
variable {pc : Nat} {ls : Array Slot} {rest st0 : List Value}
variable {y : MethodName} {bytes : ByteArray} {maxL n index mc ms : Nat} {ret : Option FieldType} {hh : List (Nat × Nat × Nat × Nat)} {wy : List Cond} {rm : Room} {As : List Value}
theorem lw_w {Wc Wn cs ns : List va_W} {r9 : Int32} (hC : LC l p s m meth cq G cy kS vS A b L xs) (hM : WX l y wy rm G (PU G cy kS vS (fl cs)) As (fl cs) (fl ns) r9 mc ms) (cw : vx_CSW room_1 s #[.ref b] RL index y bytes maxL ret hh wy rm mc ms n) (js : List Nat) (h : js.map (fun j => Wc[j]?) = cs.map some) (hnd : va_nd js = true) (hf : SameL ns cs) (hw : csets Wc js ns = Wn)
    (hP : va_P G vwCl (fl Wc) H) (hD : va_D A (fl Wc)) (hS : va_S A s.heap H locs) (hn : As.length = n) (hsize : ls.size = 9) (hstack : st0 = As.reverse ++ rest) (hW : (rest.map fun v => v.category).sum ≤ 8) (hr : cells + mc ≤ room_1.cells ∧ slots + ms ≤ room_1.slots) (hdg : decode code pc = .ok (.invokestatic index, 3))
    (kk : ∀ (H1 : Heap) (locs1 : List Loc), va_P G vwCl (fl Wn) H1 → va_D A (fl Wn) → va_S A s.heap H1 locs1 → W p l e room_1 s m #[.ref b] below meth cq H1 locs1 (cells + mc) (slots + ms) Q (F0 m (pc + 3) ls (.int r9 :: rest))) : W p l e room_1 s m #[.ref b] below meth cq H locs cells slots Q (F0 m pc ls st0) :=
  c_wxS hC.S9 hM cw PU.blind (PU.at hC.hXS hC.hTZ hC.hSK hC.hDZ hS (wA_subF hD js h) hC.hK (PpartC hP js h)) hP hD hS (poss Wc js) (poss_F h) (poss_nd hnd) hf.fst ((wsets_F h hnd hf.len).trans (congrArg fl hw)) hn hsize hstack hW hr hdg kk
theorem lw_am {s1 t1 : LwS} (hC : LC l p s m meth cq G cy kS vS A b L xs) (hP : va_P G vwCl (fl (LCh cy a s1 t1)) H) : ∃ cellB : Cell, H[a.am]? = some cellB ∧ cellB.vm.isStatics = false ∧ s.vm.findClass RX8 = some cellB.cls :=
  va_recv hC.hK.1 hP (ci := 12) (q0 := offs (LCh cy a s1 t1) 15 + 0) rfl ((fl_at (Wc := LCh cy a s1 t1) (j := 15) (i := 0) (c := [(a.am, .inr (12, [.ref a.aS, .ref a.aBf, .ref a.aAs, .ref a.aSv, .int t1.hs, .ref a.aPa, .int (nI t1.ct), .int t1.th, .ref a.aOu, .int (nI t1.nb), .ref a.aTx, .int (nI t1.LN), .int (nI t1.x0.1), .int (bI t1.x0.2), .int t1.ep, .int t1.fc, .ref a.aCo, .int (nI t1.CM)]))]) rfl (Nat.le_of_ble_eq_true rfl)).trans rfl)
theorem ones_at {Wc : List va_W} {js : List Nat} {wc : va_W} (h : js.map (fun j => Wc[j]?) = (ones wc).map some) (hP : va_P G vwCl (fl Wc) H) : va_P G vwCl wc H := by
  have h1 := PpartC hP js h
  rwa [ones_fl] at h1
theorem lw_m {s1 t1 : LwS} {Wn : List va_W} {wc w1 : va_W} {v : Value} (hC : LC l p s m meth cq G cy kS vS A b L xs) (hM : WC l y wy rm G (PB G cy wc) (.ref a.am :: As) wc w1 (some v)) (cw : CallW room_1 s #[.ref b] RL RX8 index y bytes maxL ret wy rm 0 0 n) (js : List Nat) (h : js.map (fun j => (LCh cy a s1 t1)[j]?) = (ones wc).map some) (hnd : va_nd js = true) (hf : SameL (ones w1) (ones wc)) (hw : csets (LCh cy a s1 t1) js (ones w1) = Wn)
    (hP : va_P G vwCl (fl (LCh cy a s1 t1)) H) (hD : va_D A (fl (LCh cy a s1 t1))) (hS : va_S A s.heap H locs) (hn : As.length = n) (hsize : ls.size = 9) (hstack : st0 = As.reverse ++ .ref a.am :: rest) (hW : (rest.map fun v => v.category).sum ≤ 8) (hr : cells ≤ room_1.cells ∧ slots ≤ room_1.slots) (hdg : decode code pc = .ok (.invokevirtual index, 3))
    (kk : ∀ (H1 : Heap) (locs1 : List Loc), va_P G vwCl (fl Wn) H1 → va_D A (fl Wn) → va_S A s.heap H1 locs1 → W p l e room_1 s m #[.ref b] below meth cq H1 locs1 cells slots Q (F0 m (pc + 3) ls (v :: rest))) : W p l e room_1 s m #[.ref b] below meth cq H locs cells slots Q (F0 m pc ls st0) :=
  c_wcV hC.S9 hM cw PB.blind (lw_am hC hP) (PB.at hC.hK (ones_at h hP)) hP hD hS (poss (LCh cy a s1 t1) js) ((poss_F h).trans (by rw [ones_fl])) (poss_nd hnd) (by have h9 := hf.fst; rwa [ones_fl, ones_fl] at h9) (by have h9 := (wsets_F h hnd hf.len).trans (congrArg fl hw); rwa [ones_fl] at h9) hn hsize hstack hW hr hdg kk
theorem lw_we {T9 : Type} {s1 t1 : LwS} {Wn : T9 → List va_W} {wc : va_W} {w1 : T9 → va_W} {r9 : Int32} (hC : LC l p s m meth cq G cy kS vS A b L xs) (hM : WE l y wy rm G (PS G cy kS vS wc) (.ref a.am :: As) wc w1 (some (.int r9))) (cw : CallW room_1 s #[.ref b] RL RX8 index y bytes maxL ret wy rm 0 0 n) (js : List Nat) (h : js.map (fun j => (LCh cy a s1 t1)[j]?) = (ones wc).map some) (hnd : va_nd js = true) (hf : ∀ u, SameL (ones (w1 u)) (ones wc)) (hw : ∀ u, csets (LCh cy a s1 t1) js (ones (w1 u)) = Wn u)
    (hP : va_P G vwCl (fl (LCh cy a s1 t1)) H) (hD : va_D A (fl (LCh cy a s1 t1))) (hS : va_S A s.heap H locs) (hn : As.length = n) (hsize : ls.size = 9) (hstack : st0 = As.reverse ++ .ref a.am :: rest) (hW : (rest.map fun v => v.category).sum ≤ 8) (hr : cells ≤ room_1.cells ∧ slots ≤ room_1.slots) (hdg : decode code pc = .ok (.invokevirtual index, 3))
    (kk : ∀ (u : T9) (H1 : Heap) (locs1 : List Loc), va_P G vwCl (fl (Wn u)) H1 → va_D A (fl (Wn u)) → va_S A s.heap H1 locs1 → W p l e room_1 s m #[.ref b] below meth cq H1 locs1 cells slots Q (F0 m (pc + 3) ls (.int r9 :: rest))) : W p l e room_1 s m #[.ref b] below meth cq H locs cells slots Q (F0 m pc ls st0) :=
  c_weVi (ws' := fun u => fl (Wn u)) hC.S9 hM cw PS.blind (lw_am hC hP) (PS.at hC.hSK hS (by have h9 := wA_subF hD js h; rwa [ones_fl] at h9) hC.hK (ones_at h hP)) hP hD hS (poss (LCh cy a s1 t1) js) ((poss_F h).trans (by rw [ones_fl])) (poss_nd hnd) (fun u => by have h9 := (hf u).fst; rwa [ones_fl, ones_fl] at h9) (fun u => by have h9 := (wsets_F h hnd (hf u).len).trans (congrArg fl (hw u)); rwa [ones_fl] at h9) hn hsize hstack hW hr hdg kk
theorem lw_thrown {s1 t1 : LwS} {k : Int32} (hC : LC l p s m meth cq G cy kS vS A b L xs) (hP : va_P G vwCl (fl (LCh cy a s1 t1)) H) (hk : t1.th = k) (hsize : ls.size = 9) (hW : (rest.map fun v => v.category).sum ≤ 8) (hr : cells ≤ room_1.cells ∧ slots ≤ room_1.slots) (hdg : decode code pc = .ok (.invokevirtual 165, 3))
    (kk : W p l e room_1 s m #[.ref b] below meth cq H locs cells slots Q (F0 m (pc + 3) ls (.int k :: rest))) : W p l e room_1 s m #[.ref b] below meth cq H locs cells slots Q (F0 m pc ls (.ref a.am :: rest)) := by
  subst hk
  exact c_roVi hC.S9 (c_X8_thrown l G cy a.am a.aS a.aBf a.aAs a.aSv a.aPa a.aOu a.aTx a.aCo t1.ct t1.nb t1.LN t1.x0.1 t1.CM t1.hs t1.th (bI t1.x0.2) t1.ep t1.fc) (cwV 0 hC.S9.2.2.2.2 gL_law_X8_thrown rfl rfl rfl (by decide +kernel) ⟨Nat.le_of_ble_eq_true rfl, Nat.le_of_ble_eq_true rfl⟩) PB.blind (lw_am hC hP) (PB.at hC.hK (ones_at (Wc := LCh cy a s1 t1) (js := [15]) rfl hP)) rfl hsize rfl hW hr hdg kk
theorem lw_ldL {s1 t1 : LwS} {x : Int64} (hC : LC l p s m meth cq G cy kS vS A b L xs) (hP : va_P G vwCl (fl (LCh cy a s1 t1)) H) (hk : s1.fo = fun _ => x) (hdg : decode code pc = .ok (.laload, 1))
    (kk : W p l e room_1 s m #[.ref b] below meth cq H locs cells slots Q (F0 m (pc + 1) ls (.long x :: rest))) : W p l e room_1 s m #[.ref b] below meth cq H locs cells slots Q (F0 m pc ls (.int 0 :: .ref a.oA :: rest)) :=
  m_lald hC.S9.1 hC.S9.2.1 hC.hK hP (offs (LCh cy a s1 t1) 24 + 0) ((fl_at (Wc := LCh cy a s1 t1) (j := 24) (i := 0) (c := [(a.oA, .inl (cy 5, 1, .inr (.inl s1.fo)))]) rfl (Nat.le_of_ble_eq_true rfl)).trans (by rw [hk]; rfl)) hdg kk
theorem lw_ldD {s1 t1 : LwS} {x : UInt64} (hC : LC l p s m meth cq G cy kS vS A b L xs) (hP : va_P G vwCl (fl (LCh cy a s1 t1)) H) (hk : s1.fd = fun _ => x) (hdg : decode code pc = .ok (.daload, 1))
    (kk : W p l e room_1 s m #[.ref b] below meth cq H locs cells slots Q (F0 m (pc + 1) ls (.double x :: rest))) : W p l e room_1 s m #[.ref b] below meth cq H locs cells slots Q (F0 m pc ls (.int 0 :: .ref a.oD :: rest)) :=
  m_dald hC.S9.1 hC.S9.2.1 hC.hK hP (offs (LCh cy a s1 t1) 25 + 0) ((fl_at (Wc := LCh cy a s1 t1) (j := 25) (i := 0) (c := [(a.oD, .inl (cy 6, 1, .inr (.inr (.inr (.inl s1.fd)))))]) rfl (Nat.le_of_ble_eq_true rfl)).trans (by rw [hk]; rfl)) hdg kk
end LWR
/-! litres by the formula are those by trying -/
theorem at_first {f : Nat → Int32} : ∀ (d i k : Nat), i ≤ k → k < i + d → (∀ j, i ≤ j → j < k → ¬ f j = 1) → f k = 1 → atF f 1 i d = nI k
  | 0, i, k, h1, h2, _, _ => absurd h2 (by omega)
  | d + 1, i, k, h1, h2, hno, hk => by
    by_cases e : i = k
    · subst e
      exact atF_yes (f := f) (i := 1) (k := i) hk
    · rw [atF_no (f := f) (i := 1) (k := i) (hno i (Nat.le_refl i) (by omega))]
      exact at_first d (i + 1) k (by omega) (by omega) (fun j h3 h4 => hno j (by omega) h4) hk
theorem at_none {f : Nat → Int32} : ∀ (d i : Nat), (∀ j, i ≤ j → j < i + d → ¬ f j = 1) → atF f 1 i d = -1
  | 0, i, _ => rfl
  | d + 1, i, h => by
    rw [atF_no (f := f) (i := 1) (k := i) (h i (Nat.le_refl i) (by omega))]
    exact at_none d (i + 1) (fun j h1 h2 => h j (by omega) (by omega))
theorem first_eq {f : Nat → Int32} {v r : Int32} {a : Nat} (C : Nat → Prop) (hv : v.toInt = (a : Int)) (ha : a ≤ 100) (hf : ∀ j, j + a ≤ 100 → (f j = 1 ↔ C j)) (hr : (∃ K : Nat, K < 20000 ∧ r = nI K ∧ C K ∧ ∀ j, j < K → ¬ C j) ∨ (r = -1 ∧ ∀ j, ¬ C j)) : (if r ≤ 100 - v then r else -1) = atF f 1 0 (101 - a) := by
  have e100 : (100 - v).toInt = 100 - (a : Int) := ti_sub (show (100 : Int32).toInt = 100 from by decide) hv (by omega) (by omega)
  rcases hr with ⟨K, h1, h2, h3, h4⟩ | ⟨h1, h2⟩
  · have eK : r.toInt = (K : Int) := by
      rw [h2]
      exact nI_toInt (by omega)
    by_cases z : K + a ≤ 100
    · rw [if_pos (ti_le.mpr (by rw [eK, e100]; omega)), h2]
      exact (at_first (101 - a) 0 K (Nat.zero_le K) (by omega) (fun j _ hj w => h4 j hj ((hf j (by omega)).mp w)) ((hf K z).mpr h3)).symm
    · rw [if_neg (fun w => by have h9 := ti_le.mp w; rw [eK, e100] at h9; omega)]
      exact (at_none (101 - a) 0 (fun j _ hj w => h4 j (by omega) ((hf j (by omega)).mp w))).symm
  · rw [h1, ite_self]
    exact (at_none (101 - a) 0 (fun j _ hj w => h2 j ((hf j (by omega)).mp w))).symm
theorem rdeg_ti {v h t : Int32} {a c T : Int} {k : Nat} (hv : v.toInt = a) (hh : h.toInt = c) (hT : (10 + 30 * t).toInt = T) (ha : 0 < a) (hk : a + (k : Int) ≤ 100) (hc : 0 ≤ c) (hc2 : c ≤ 7000) (hT0 : 0 ≤ T) (hT1 : T ≤ 70) : (rdeg (h + nI k * (10 + 30 * t)) (v + nI k)).toInt = (c + (k : Int) * T) / (a + (k : Int)) := by
  have ek : (nI k).toInt = (k : Int) := nI_toInt (by omega)
  have m0 : 0 ≤ (k : Int) * T := Int.mul_nonneg (by omega) hT0
  have m1 : (k : Int) * T ≤ 100 * 70 := Int.mul_le_mul (by omega) hT1 hT0 (by omega)
  have e1 : (nI k * (10 + 30 * t)).toInt = (k : Int) * T := ti_mul ek hT (by omega) (by omega)
  have e2 : (h + nI k * (10 + 30 * t)).toInt = c + (k : Int) * T := ti_add hh e1 (by omega) (by omega)
  have e3 : (v + nI k).toInt = a + (k : Int) := ti_add hv ek (by omega) (by omega)
  have n3 : ¬ v + nI k ≤ 0 := fun w => by
    have h9 := ti_le.mp w
    rw [e3, Int32.toInt_zero] at h9
    omega
  unfold rdeg
  rw [if_neg n3]
  exact ti_div e2 e3 (by omega) (by omega)
theorem ite_one {q : Prop} [Decidable q] : (if q then (1 : Int32) else 0) = 1 ↔ q := by
  by_cases h : q
  · rw [if_pos h]
    exact ⟨fun _ => h, fun _ => rfl⟩
  · rw [if_neg h]
    exact ⟨fun w => absurd w (by decide), fun w => absurd w h⟩
theorem lt_cool {v h g : Int32} {a c gg : Int} {k : Nat} (hv : v.toInt = a) (hh : h.toInt = c) (hg : g.toInt = gg) (ha : 0 < a) (hk : a + (k : Int) ≤ 100) (hc : 0 ≤ c) (hc2 : c ≤ 7000) : ltF v h 0 g k = 1 ↔ c - (gg + 1) * a < (gg + 1 - 10) * (k : Int) := by
  have e := rdeg_ti (t := 0) (T := 10) hv hh (by decide) ha hk hc hc2 (by omega) (by omega)
  have e0 : ltF v h 0 g k = 1 ↔ (rdeg (h + nI k * (10 + 30 * 0)) (v + nI k)).toInt ≤ gg := by
    refine Iff.trans (ite_one (q := (if (0 : Int32) = 0 then rdeg (h + nI k * (10 + 30 * 0)) (v + nI k) ≤ g else ¬ rdeg (h + nI k * (10 + 30 * 0)) (v + nI k) < g))) ?_
    rw [if_pos rfl, ti_le, hg]
  have x0 : (c + (k : Int) * 10) / (a + (k : Int)) ≤ gg ↔ c + (k : Int) * 10 < (gg + 1) * (a + (k : Int)) := by
    rw [← Int.lt_add_one_iff, Int.ediv_lt_iff_lt_mul (by omega)]
  have x1 : (gg + 1) * (a + (k : Int)) = (gg + 1) * a + (gg + 1) * (k : Int) := Int.mul_add _ _ _
  have x2 : (gg + 1 - 10) * (k : Int) = (gg + 1) * (k : Int) - 10 * (k : Int) := Int.sub_mul _ _ _
  rw [e0, e, x0, x1, x2]
  constructor <;> intro w <;> omega
theorem lt_warm {v h g t : Int32} {a c gg T : Int} {k : Nat} (hv : v.toInt = a) (hh : h.toInt = c) (hg : g.toInt = gg) (ht : ¬ t = 0) (hT : (10 + 30 * t).toInt = T) (ha : 0 < a) (hk : a + (k : Int) ≤ 100) (hc : 0 ≤ c) (hc2 : c ≤ 7000) (hT0 : 0 ≤ T) (hT1 : T ≤ 70) : ltF v h t g k = 1 ↔ gg * a - c ≤ (T - gg) * (k : Int) := by
  have e := rdeg_ti hv hh hT ha hk hc hc2 hT0 hT1
  have e0 : ltF v h t g k = 1 ↔ gg ≤ (rdeg (h + nI k * (10 + 30 * t)) (v + nI k)).toInt := by
    refine Iff.trans (ite_one (q := (if t = 0 then rdeg (h + nI k * (10 + 30 * t)) (v + nI k) ≤ g else ¬ rdeg (h + nI k * (10 + 30 * t)) (v + nI k) < g))) ?_
    rw [if_neg ht, Int32.not_lt, ti_le, hg]
  have x0 : gg ≤ (c + (k : Int) * T) / (a + (k : Int)) ↔ gg * (a + (k : Int)) ≤ c + (k : Int) * T := Int.le_ediv_iff_mul_le (by omega)
  have x1 : gg * (a + (k : Int)) = gg * a + gg * (k : Int) := Int.mul_add _ _ _
  have x2 : (T - gg) * (k : Int) = T * (k : Int) - gg * (k : Int) := Int.sub_mul _ _ _
  have x3 : (k : Int) * T = T * (k : Int) := Int.mul_comm _ _
  rw [e0, e, x0, x1, x2, x3]
  constructor <;> intro w <;> omega
theorem cool_hr {x y : Int32} {E Y : Int} (hx : x.toInt = E) (hy : y.toInt = Y) (hE : E ≤ 7000) : (∃ K : Nat, K < 20000 ∧ coolF x y = nI K ∧ E < Y * (K : Int) ∧ ∀ j : Nat, j < K → ¬ E < Y * (j : Int)) ∨ (coolF x y = -1 ∧ ∀ j : Nat, ¬ E < Y * (j : Int)) := by
  unfold coolF
  by_cases z : x < 0
  · have z1 : E < 0 := by
      have h9 := Int32.lt_iff_toInt_lt.mp z
      rw [hx, Int32.toInt_zero] at h9
      exact h9
    refine Or.inl ⟨0, by omega, if_pos z, ?_, fun j hj => absurd hj (Nat.not_lt_zero j)⟩
    have e0 : ((0 : Nat) : Int) = 0 := rfl
    rw [e0, Int.mul_zero]
    exact z1
  · have z1 : 0 ≤ E := by
      rw [Int32.lt_iff_toInt_lt, hx, Int32.toInt_zero] at z
      omega
    rw [if_neg z]
    by_cases w : y ≤ 0
    · have w1 : Y ≤ 0 := by
        have h9 := ti_le.mp w
        rw [hy, Int32.toInt_zero] at h9
        exact h9
      refine Or.inr ⟨if_pos w, fun j q => ?_⟩
      have h9 : Y * (j : Int) ≤ 0 * (j : Int) := Int.mul_le_mul_of_nonneg_right w1 (by omega)
      rw [Int.zero_mul] at h9
      omega
    · have w1 : 0 < Y := by
        rw [ti_le, hy, Int32.toInt_zero] at w
        omega
      have d0 : 0 ≤ E / Y := Int.ediv_nonneg z1 (by omega)
      have d1 : E / Y ≤ E := Int.ediv_le_self Y z1
      have ev : (x / y + 1).toInt = E / Y + 1 := ti_add (ti_div hx hy z1 w1) (show (1 : Int32).toInt = 1 from by decide) (by omega) (by omega)
      have e : (((E / Y + 1).toNat : Nat) : Int) = E / Y + 1 := Int.toNat_of_nonneg (by omega)
      rw [if_neg w]
      refine Or.inl ⟨(E / Y + 1).toNat, by omega, Int32.toInt_inj.mp (by rw [ev, nI_toInt (by omega), e]), ?_, fun j hj q => ?_⟩
      · have h9 : ¬ E / Y + 1 ≤ E / Y := by omega
        rw [Int.le_ediv_iff_mul_le w1] at h9
        rw [e, Int.mul_comm]
        omega
      · have h9 : (j : Int) ≤ E / Y := by omega
        rw [Int.le_ediv_iff_mul_le w1, Int.mul_comm] at h9
        omega
theorem warm_hr {x y : Int32} {E Y : Int} (hx : x.toInt = E) (hy : y.toInt = Y) (hE : E ≤ 9900) (hE2 : -7000 ≤ E) (hY : Y ≤ 70) (hY2 : -100 ≤ Y) : (∃ K : Nat, K < 20000 ∧ warmF x y = nI K ∧ E ≤ Y * (K : Int) ∧ ∀ j : Nat, j < K → ¬ E ≤ Y * (j : Int)) ∨ (warmF x y = -1 ∧ ∀ j : Nat, ¬ E ≤ Y * (j : Int)) := by
  unfold warmF
  by_cases z : x ≤ 0
  · have z1 : E ≤ 0 := by
      have h9 := ti_le.mp z
      rw [hx, Int32.toInt_zero] at h9
      exact h9
    refine Or.inl ⟨0, by omega, if_pos z, ?_, fun j hj => absurd hj (Nat.not_lt_zero j)⟩
    have e0 : ((0 : Nat) : Int) = 0 := rfl
    rw [e0, Int.mul_zero]
    exact z1
  · have z1 : 0 < E := by
      rw [ti_le, hx, Int32.toInt_zero] at z
      omega
    rw [if_neg z]
    by_cases w : y ≤ 0
    · have w1 : Y ≤ 0 := by
        have h9 := ti_le.mp w
        rw [hy, Int32.toInt_zero] at h9
        exact h9
      refine Or.inr ⟨if_pos w, fun j q => ?_⟩
      have h9 : Y * (j : Int) ≤ 0 * (j : Int) := Int.mul_le_mul_of_nonneg_right w1 (by omega)
      rw [Int.zero_mul] at h9
      omega
    · have w1 : 0 < Y := by
        rw [ti_le, hy, Int32.toInt_zero] at w
        omega
      have s1 : (x + y - 1).toInt = E + Y - 1 := ti_sub (ti_add hx hy (by omega) (by omega)) (show (1 : Int32).toInt = 1 from by decide) (by omega) (by omega)
      have ev : ((x + y - 1) / y).toInt = (E + Y - 1) / Y := ti_div s1 hy (by omega) w1
      have d0 : 0 ≤ (E + Y - 1) / Y := Int.ediv_nonneg (by omega) (by omega)
      have d1 : (E + Y - 1) / Y ≤ E + Y - 1 := Int.ediv_le_self Y (by omega)
      have e : ((((E + Y - 1) / Y).toNat : Nat) : Int) = (E + Y - 1) / Y := Int.toNat_of_nonneg d0
      rw [if_neg w]
      refine Or.inl ⟨((E + Y - 1) / Y).toNat, by omega, Int32.toInt_inj.mp (by rw [ev, nI_toInt (by omega), e]), ?_, fun j hj q => ?_⟩
      · have h9 : ¬ (E + Y - 1) / Y + 1 ≤ (E + Y - 1) / Y := by omega
        rw [Int.le_ediv_iff_mul_le w1, Int.add_mul, Int.one_mul] at h9
        rw [e, Int.mul_comm]
        omega
      · have h9 : (j : Int) + 1 ≤ (E + Y - 1) / Y := by omega
        rw [Int.le_ediv_iff_mul_le w1, Int.add_mul, Int.one_mul, Int.mul_comm] at h9
        omega
theorem frm_eq {v h : Nat → Int32} {j : Nat} {t g : Int32} (hbd : Bd v h) (hj : j < 5) (hw : wet v j = true) (ht : tapB t = true) (hg : inR g 0 99 = true) : frmF (v j) (h j) t g = atF (ltF (v j) (h j) t g) 1 0 (101 - bx (v j)) := by
  obtain ⟨⟨a0, a1⟩, c0, c1⟩ := hbd j hj
  have aw : 0 < (v j).toInt := ti_wet.mp hw
  obtain ⟨g1, g2⟩ := inR_iff.mp hg
  have g3 : 0 ≤ g.toInt := by
    rw [Int32.lt_iff_toInt_lt, Int32.toInt_zero] at g1
    omega
  have g4 : g.toInt ≤ 99 := by
    rw [Int32.lt_iff_toInt_lt, show (99 : Int32).toInt = 99 from by decide] at g2
    omega
  have hb := (bx_v hbd hj).2
  have hv : (v j).toInt = (bx (v j) : Int) := (congrArg Int32.toInt (bx_v hbd hj).1).trans (nI_toInt (by omega))
  have o1 : (1 : Int32).toInt = 1 := by decide
  have p0 : 0 ≤ (g.toInt + 1) * (v j).toInt := Int.mul_nonneg (by omega) (by omega)
  have p1 : (g.toInt + 1) * (v j).toInt ≤ 100 * 100 := Int.mul_le_mul (by omega) a1 (by omega) (by omega)
  have q0 : 0 ≤ g.toInt * (v j).toInt := Int.mul_nonneg (by omega) (by omega)
  have q1 : g.toInt * (v j).toInt ≤ 99 * 100 := Int.mul_le_mul g4 a1 (by omega) (by omega)
  have eg : (g + 1).toInt = g.toInt + 1 := ti_add rfl o1 (by omega) (by omega)
  have ex : (h j - (g + 1) * v j).toInt = (h j).toInt - (g.toInt + 1) * (v j).toInt := ti_sub rfl (ti_mul eg rfl (by omega) (by omega)) (by omega) (by omega)
  have ey : (g + 1 - (10 + 30 * 0)).toInt = g.toInt + 1 - 10 := ti_sub eg (by decide) (by omega) (by omega)
  have eu : (g * v j - h j).toInt = g.toInt * (v j).toInt - (h j).toInt := ti_sub (ti_mul rfl rfl (by omega) (by omega)) rfl (by omega) (by omega)
  obtain ⟨i, hi, e⟩ := tap_ix ht
  rcases (show i = 0 ∨ i = 1 ∨ i = 2 by omega) with rfl | rfl | rfl
  · have e0 : t = 0 := e.trans (by decide)
    subst e0
    have f1 : frm1 (v j) (h j) 0 g = coolF (h j - (g + 1) * v j) (g + 1 - (10 + 30 * 0)) := if_pos rfl
    unfold frmF
    rw [f1]
    exact first_eq (fun k : Nat => (h j).toInt - (g.toInt + 1) * (v j).toInt < (g.toInt + 1 - 10) * (k : Int)) hv hb (fun i hi => lt_cool rfl rfl rfl aw (by omega) c0 c1) (cool_hr ex ey (by omega))
  · have f1 : frm1 (v j) (h j) t g = warmF (g * v j - h j) (10 + 30 * t - g) := if_neg (by rw [e]; decide)
    have hT : (10 + 30 * t).toInt = 40 := by rw [e]; decide
    have ew : (10 + 30 * t - g).toInt = 40 - g.toInt := ti_sub hT rfl (by omega) (by omega)
    unfold frmF
    rw [f1]
    exact first_eq (fun k : Nat => g.toInt * (v j).toInt - (h j).toInt ≤ (40 - g.toInt) * (k : Int)) hv hb (fun i hi => lt_warm rfl rfl rfl (by rw [e]; decide) hT aw (by omega) c0 c1 (by omega) (by omega)) (warm_hr eu ew (by omega) (by omega) (by omega) (by omega))
  · have f1 : frm1 (v j) (h j) t g = warmF (g * v j - h j) (10 + 30 * t - g) := if_neg (by rw [e]; decide)
    have hT : (10 + 30 * t).toInt = 70 := by rw [e]; decide
    have ew : (10 + 30 * t - g).toInt = 70 - g.toInt := ti_sub hT rfl (by omega) (by omega)
    unfold frmF
    rw [f1]
    exact first_eq (fun k : Nat => g.toInt * (v j).toInt - (h j).toInt ≤ (70 - g.toInt) * (k : Int)) hv hb (fun i hi => lt_warm rfl rfl rfl (by rw [e]; decide) hT aw (by omega) c0 c1 (by omega) (by omega)) (warm_hr eu ew (by omega) (by omega) (by omega) (by omega))
/-! THE CLAIM OUT OF ONE WALK OF THE LAW'S BODY. Your part is whole_start (and what it stands on); all else here is the same for every law, but numbers. -/
def R_law : String := "BathLeagueLaw"
def lw_P (b : Addr) (xs : List Int32) (args : Array Value) (s : State) : Prop := args = #[.ref b] ∧ s.IntsAt b xs ∧ xs.length ≤ 2048 ∧ (Jvm.Cond.and given_1 narrow_1).before args s = true
/-- what a walk over the start with the record d0 says of its end, said of the start itself -/
theorem lw_closed {s t : State} {o : Outcome} {d0 : Drawn} {L : List Loc} {k n : Nat} (hd0 : s.drawn.sameBut d0 lw_cs) (hv : ∃ v, o = .returned v) (hW : (s.setDrawn d0).WarmedH t.vm) (hs : (s.setDrawn d0).sameButNew ({ t with vm := s.vm } : State) L k n) : State.butDraws s t lw_cs (fun t1 => Framed s o t1 L k n) := by
  have h2 : t.drawn = d0 := congrArg State.drawn hs.1
  refine ⟨⟨hv, hW, State.sameButNew.setDrawn hs s.drawn⟩, ?_, by decide⟩
  rw [h2]
  exact hd0
def lw_Q (_ : Array Value) (s : State) (o : Outcome) (t : State) : Prop := o = .returned (some (.int 1)) ∧ State.butDraws s t lw_cs (fun t1 => Framed s o t1 [] 603072 7215210)
def lw_Z (below : List Frame) (a : Array Value) (s : State) : State → Prop := fun t => ∃ o, t.status = .running ∧ Ended t below o ∧ lw_Q a s o t
/-- the law's own end, with 1 on the stack, nothing written that was there before, its room as the claim has it; d0: the record of draws at this point (at the entry s.drawn: begin with 'refine W.base ?_' and 'have hd0 := Drawn.sameBut.refl s.drawn lw_cs') -/
theorem lw_ret {p : Program} {l : Launch} {e : Env} {s : State} {m : MethodId} {below : List Frame} {meth : Method} {c : Code} {b : Nat} {d0 : Drawn} (hd0 : s.drawn.sameBut d0 lw_cs) (hx : p.tables.exec = Jvm.exec) (hb : c.code = code) (hr : meth.sig.returnType = ret) (hlocks : meth.locks = false) {pc : Nat} {H : Heap} {ls : Array Slot} (hdg : decode code pc = .ok (.ireturn, 1)) : W p l e room_1 (s.setDrawn d0) m #[Value.ref b] below meth c H [] 603072 7215210 (lw_Z below #[Value.ref b] s) (F0 m pc ls [.int 1]) := by
  intro T hT X
  obtain ⟨fs, hret, hrun, hended, hW, hframe⟩ := X.leave (v := some (.int 1)) (hlocks := hlocks) (fun h => by rw [hr] at h; cases h)
  have hmeth' : T.vm.method? m = some meth := X.method'
  refine ⟨T.setFrames fs, ?_, .returned (some (.int 1)), hrun, hended, rfl, lw_closed hd0 ⟨_, rfl⟩ hW hframe⟩
  jvm_step X.here [X.here.top, hx, hb, hdg, hmeth', hr, ret, narrow_b1]
  (try refine ⟨rfl, ?_⟩); (try refine ⟨rfl, ?_⟩)
  first | (intro acts; rw [hret _ acts rfl rfl rfl]) | rw [hret _ _ rfl rfl rfl]
  exact Steps.refl _
/-- what holds at the law's entry: the machine, the code, the tables' words (any of lw_tbl by 'hts w (by decide +kernel)'), the script of L ints xs at the cell b, what the Statement gives of the start (any of its parts by flat_of_before) -/
def lw_At (p : Program) (s : State) (m : MethodId) (meth : Method) (c : Code) (b L : Nat) (xs : Nat → Int32) : Prop :=
  p.tables.exec = Jvm.exec ∧ c.code = code ∧ meth.sig.returnType = ret ∧ c.maxLocals = 9 ∧ s.vm.findClass R_law = some m.cls ∧ (∀ w ∈ lw_tbl, w.before #[Value.ref b] s = true) ∧ va_X b L xs s s.heap ∧ b < s.heap.size ∧ meth.locks = false ∧ (Jvm.Cond.and given_1 narrow_1).before #[Value.ref b] s = true
/-! what the tables and the premises give at the start -/
theorem gv_w {C w : Cond} {args : Array Value} {s : State} (h : C.before args s = true) (k : Nat) (hk : (flatC C)[k]? = some w) : w.before args s = true := flat_of_before _ h w (List.mem_of_getElem? hk)
def GVs (args : Array Value) (s : State) : Prop := narrow_1_1.before args s = true ∧ narrow_1_2.before args s = true ∧ narrow_1_3.before args s = true ∧ narrow_1_4.before args s = true
theorem gv_s {args : Array Value} {s : State} (h : (Jvm.Cond.and given_1 narrow_1).before args s = true) : GVs args s := by
  rw [Cond.before_and, Bool.and_eq_true] at h
  have h2 : (Jvm.Cond.and (Jvm.Cond.and narrow_1_1 narrow_1_2) (Jvm.Cond.and narrow_1_3 narrow_1_4)).before args s = true := h.2
  rw [Cond.before_and, Cond.before_and, Cond.before_and, Bool.and_eq_true, Bool.and_eq_true, Bool.and_eq_true] at h2
  exact ⟨h2.1.1, h2.1.2, h2.2.1, h2.2.2⟩
set_option maxRecDepth 100000 in
set_option maxHeartbeats 4000000 in
theorem st_tap {args : Array Value} {s : State} {A : Nat → Prop} (hts : ∀ w ∈ lw_tbl, w.before args s = true) (hg : GVs args s) (hA : ∀ a : Nat, a < s.heap.size → ¬ A a) : ∃ t, va_Z "BathLeague" "TAP_DEGREES" "[I" (.ref t) A s s.heap ∧ va_T .int t 3 tapV A s s.heap := by
  have h4 : ∀ j, j < 3 → (flatC narrow_1_1)[8 + j]? = some (.eq (.elem (.static "BathLeague" "TAP_DEGREES" "[I") (.int (Int32.ofNat j))) (.int (nI (10 + 30 * j)))) := by decide +kernel
  obtain ⟨t, ht, hT⟩ := va_Tof (tm := (.static "BathLeague" "TAP_DEGREES" "[I")) (ty := .int) (N := 3) (f := tapV) (A := A) (by decide) (gv_w hg.1 6 (by decide +kernel)) (va_eqt (gv_w hg.1 7 (by decide +kernel))) (fun j hj => va_eqt (gv_w hg.1 (8 + j) (h4 j hj))) hA
  exact ⟨t, va_Zref (hts (.laysStatic "BathLeague" "TAP_DEGREES" "[I") (by decide +kernel)) (hts (.initialized "BathLeague") (by decide +kernel)) ht hA, hT⟩
set_option maxRecDepth 100000 in
set_option maxHeartbeats 4000000 in
theorem st_one {args : Array Value} {s : State} {A : Nat → Prop} (hts : ∀ w ∈ lw_tbl, w.before args s = true) (hg : GVs args s) (hA : ∀ a : Nat, a < s.heap.size → ¬ A a) : ∃ t, va_Z "java/lang/Integer" "DigitOnes" "[B" (.ref t) A s s.heap ∧ va_T .byte t 100 oneV A s s.heap := by
  have h4 : ∀ j, j < 100 → (flatC narrow_1_1)[18 + j]? = some (.eq (.elem (.static "java/lang/Integer" "DigitOnes" "[B") (.int (Int32.ofNat j))) (.int (nI (48 + j % 10)))) := by decide +kernel
  obtain ⟨t, ht, hT⟩ := va_Tof (tm := (.static "java/lang/Integer" "DigitOnes" "[B")) (ty := .byte) (N := 100) (f := oneV) (A := A) (by decide) (gv_w hg.1 16 (by decide +kernel)) (va_eqt (gv_w hg.1 17 (by decide +kernel))) (fun j hj => va_eqt (gv_w hg.1 (18 + j) (h4 j hj))) hA
  exact ⟨t, va_Zref (hts (.laysStatic "java/lang/Integer" "DigitOnes" "[B") (by decide +kernel)) (hts (.initialized "java/lang/Integer") (by decide +kernel)) ht hA, hT⟩
set_option maxRecDepth 100000 in
set_option maxHeartbeats 4000000 in
theorem st_ten {args : Array Value} {s : State} {A : Nat → Prop} (hts : ∀ w ∈ lw_tbl, w.before args s = true) (hg : GVs args s) (hA : ∀ a : Nat, a < s.heap.size → ¬ A a) : ∃ t, va_Z "java/lang/Integer" "DigitTens" "[B" (.ref t) A s s.heap ∧ va_T .byte t 100 tenV A s s.heap := by
  have h4 : ∀ j, j < 100 → (flatC narrow_1_1)[121 + j]? = some (.eq (.elem (.static "java/lang/Integer" "DigitTens" "[B") (.int (Int32.ofNat j))) (.int (nI (48 + j / 10)))) := by decide +kernel
  obtain ⟨t, ht, hT⟩ := va_Tof (tm := (.static "java/lang/Integer" "DigitTens" "[B")) (ty := .byte) (N := 100) (f := tenV) (A := A) (by decide) (gv_w hg.1 119 (by decide +kernel)) (va_eqt (gv_w hg.1 120 (by decide +kernel))) (fun j hj => va_eqt (gv_w hg.1 (121 + j) (h4 j hj))) hA
  exact ⟨t, va_Zref (hts (.laysStatic "java/lang/Integer" "DigitTens" "[B") (by decide +kernel)) (hts (.initialized "java/lang/Integer") (by decide +kernel)) ht hA, hT⟩
set_option maxRecDepth 100000 in
set_option maxHeartbeats 4000000 in
theorem st_cmp {args : Array Value} {s : State} {A : Nat → Prop} (hts : ∀ w ∈ lw_tbl, w.before args s = true) (hg : GVs args s) (hA : ∀ a : Nat, a < s.heap.size → ¬ A a) : va_Z "java/lang/String" "COMPACT_STRINGS" "Z" (.int 1) A s s.heap := va_Zof (hts (.laysStatic "java/lang/String" "COMPACT_STRINGS" "Z") (by decide +kernel)) (hts (.initialized "java/lang/String") (by decide +kernel)) (va_eqi (gv_w hg.1 2 (by decide +kernel))) hA
set_option maxRecDepth 100000 in
set_option maxHeartbeats 4000000 in
theorem st_fmt {args : Array Value} {s : State} {A : Nat → Prop} (hts : ∀ w ∈ lw_tbl, w.before args s = true) (hg : GVs args s) (hA : ∀ a : Nat, a < s.heap.size → ¬ A a) : va_Zq "jdk/internal/util/Preconditions" "SIOOBE_FORMATTER" "Ljava/util/function/BiFunction;" A s s.heap := va_Zqof (hts (.laysStatic "jdk/internal/util/Preconditions" "SIOOBE_FORMATTER" "Ljava/util/function/BiFunction;") (by decide +kernel)) (hts (.initialized "jdk/internal/util/Preconditions") (by decide +kernel)) (gv_w hg.1 11 (by decide +kernel)) hA
set_option maxRecDepth 100000 in
set_option maxHeartbeats 4000000 in
theorem st_lit {args : Array Value} {s : State} {A : Nat → Prop} {C : Cond} (hg : C.before args s = true) (hA : ∀ a : Nat, a < s.heap.size → ¬ A a) {own : String} {k n : Nat} {bs : List Int32} (e : Nat) (h0 : (flatC C)[e]? = some (.exactly (.string own k) "java/lang/String")) (h1 : (flatC C)[e + 1]? = some (.eq (.field (.string own k) "java/lang/String" "coder" "B") (.int 0))) (h2 : (flatC C)[e + 2]? = some (.arrayOf (.field (.string own k) "java/lang/String" "value" "[B") .byte)) (h3 : (flatC C)[e + 3]? = some (.eq (.length (.field (.string own k) "java/lang/String" "value" "[B")) (.int (Int32.ofNat n)))) (h4 : ∀ j, j < n → (flatC C)[e + 4 + j]? = some (.eq (.elem (.field (.string own k) "java/lang/String" "value" "[B") (.int (Int32.ofNat j))) (.int (bs.getD j 0)))) (hn : n < 2 ^ 31) : ∃ q : Nat × Nat, (Term.string own k).eval args s none [] s = some (.ref q.1) ∧ strI n bs q.1 q.2 A s s.heap := by
  obtain ⟨a, c, cA, kA, q1, q2, q3, q4, q5, q6, -⟩ := Cond.exactly_spec (args := args) (first := s) (o := none) (s := s) (idx := []) (t := .string own k) (cls := "java/lang/String") (gv_w hg e h0)
  obtain ⟨t, ht, hT⟩ := va_Tof (f := fun j => .int (bs.getD j 0)) (A := A) hn (gv_w hg (e + 2) h2) (va_eqt (gv_w hg (e + 3) h3)) (fun j hj => va_eqt (gv_w hg (e + 4 + j) (h4 j hj))) hA
  exact ⟨(a, t), q1, ⟨cA, q3, q5, by rw [q6]; exact q2, hA a (Array.getElem?_eq_some_iff.mp q3).1⟩, vk_OFof q1 (va_eqt (gv_w hg (e + 1) h1)) hA, vk_OFof q1 ht hA, hT⟩
set_option maxRecDepth 100000 in
set_option maxHeartbeats 4000000 in
theorem st_l0 {args : Array Value} {s : State} {A : Nat → Prop} (hg : GVs args s) (hA : ∀ a : Nat, a < s.heap.size → ¬ A a) : ∃ q : Nat × Nat, (Term.string (sIx 0).1 (sIx 0).2.1).eval args s none [] s = some (.ref q.1) ∧ strI (lenS.getD 0 0) (bytS.getD 0 []) q.1 q.2 A s s.heap := st_lit (C := narrow_1_3) hg.2.2.1 hA (own := "BathLeague$Script") (k := 53) (n := 4) (bs := [98, 97, 116, 104]) 306 (by decide +kernel) (by decide +kernel) (by decide +kernel) (by decide +kernel) (by decide +kernel) (by decide)
set_option maxRecDepth 100000 in
set_option maxHeartbeats 4000000 in
theorem st_l1 {args : Array Value} {s : State} {A : Nat → Prop} (hg : GVs args s) (hA : ∀ a : Nat, a < s.heap.size → ¬ A a) : ∃ q : Nat × Nat, (Term.string (sIx 1).1 (sIx 1).2.1).eval args s none [] s = some (.ref q.1) ∧ strI (lenS.getD 1 0) (bytS.getD 1 []) q.1 q.2 A s s.heap := st_lit (C := narrow_1_3) hg.2.2.1 hA (own := "BathLeague$Script") (k := 72) (n := 5) (bs := [106, 111, 105, 110, 32]) 353 (by decide +kernel) (by decide +kernel) (by decide +kernel) (by decide +kernel) (by decide +kernel) (by decide)
set_option maxRecDepth 100000 in
set_option maxHeartbeats 4000000 in
theorem st_l2 {args : Array Value} {s : State} {A : Nat → Prop} (hg : GVs args s) (hA : ∀ a : Nat, a < s.heap.size → ¬ A a) : ∃ q : Nat × Nat, (Term.string (sIx 2).1 (sIx 2).2.1).eval args s none [] s = some (.ref q.1) ∧ strI (lenS.getD 2 0) (bytS.getD 2 []) q.1 q.2 A s s.heap := st_lit (C := narrow_1_3) hg.2.2.1 hA (own := "BathLeague$Script") (k := 78) (n := 6) (bs := [108, 101, 97, 118, 101, 32]) 362 (by decide +kernel) (by decide +kernel) (by decide +kernel) (by decide +kernel) (by decide +kernel) (by decide)
set_option maxRecDepth 100000 in
set_option maxHeartbeats 4000000 in
theorem st_l3 {args : Array Value} {s : State} {A : Nat → Prop} (hg : GVs args s) (hA : ∀ a : Nat, a < s.heap.size → ¬ A a) : ∃ q : Nat × Nat, (Term.string (sIx 3).1 (sIx 3).2.1).eval args s none [] s = some (.ref q.1) ∧ strI (lenS.getD 3 0) (bytS.getD 3 []) q.1 q.2 A s s.heap := st_lit (C := narrow_1_3) hg.2.2.1 hA (own := "BathLeague$Script") (k := 80) (n := 3) (bs := [97, 112, 32]) 314 (by decide +kernel) (by decide +kernel) (by decide +kernel) (by decide +kernel) (by decide +kernel) (by decide)
set_option maxRecDepth 100000 in
set_option maxHeartbeats 4000000 in
theorem st_l4 {args : Array Value} {s : State} {A : Nat → Prop} (hg : GVs args s) (hA : ∀ a : Nat, a < s.heap.size → ¬ A a) : ∃ q : Nat × Nat, (Term.string (sIx 4).1 (sIx 4).2.1).eval args s none [] s = some (.ref q.1) ∧ strI (lenS.getD 4 0) (bytS.getD 4 []) q.1 q.2 A s s.heap := st_lit (C := narrow_1_3) hg.2.2.1 hA (own := "BathLeague$Script") (k := 88) (n := 3) (bs := [105, 99, 107]) 321 (by decide +kernel) (by decide +kernel) (by decide +kernel) (by decide +kernel) (by decide +kernel) (by decide)
set_option maxRecDepth 100000 in
set_option maxHeartbeats 4000000 in
theorem st_l5 {args : Array Value} {s : State} {A : Nat → Prop} (hg : GVs args s) (hA : ∀ a : Nat, a < s.heap.size → ¬ A a) : ∃ q : Nat × Nat, (Term.string (sIx 5).1 (sIx 5).2.1).eval args s none [] s = some (.ref q.1) ∧ strI (lenS.getD 5 0) (bytS.getD 5 []) q.1 q.2 A s s.heap := st_lit (C := narrow_1_3) hg.2.2.1 hA (own := "BathLeague$Script") (k := 90) (n := 4) (bs := [108, 117, 103, 32]) 328 (by decide +kernel) (by decide +kernel) (by decide +kernel) (by decide +kernel) (by decide +kernel) (by decide)
set_option maxRecDepth 100000 in
set_option maxHeartbeats 4000000 in
theorem st_l6 {args : Array Value} {s : State} {A : Nat → Prop} (hg : GVs args s) (hA : ∀ a : Nat, a < s.heap.size → ¬ A a) : ∃ q : Nat × Nat, (Term.string (sIx 6).1 (sIx 6).2.1).eval args s none [] s = some (.ref q.1) ∧ strI (lenS.getD 6 0) (bytS.getD 6 []) q.1 q.2 A s s.heap := st_lit (C := narrow_1_3) hg.2.2.1 hA (own := "BathLeague$Script") (k := 95) (n := 4) (bs := [111, 117, 114, 32]) 336 (by decide +kernel) (by decide +kernel) (by decide +kernel) (by decide +kernel) (by decide +kernel) (by decide)
set_option maxRecDepth 100000 in
set_option maxHeartbeats 4000000 in
theorem st_l7 {args : Array Value} {s : State} {A : Nat → Prop} (hg : GVs args s) (hA : ∀ a : Nat, a < s.heap.size → ¬ A a) : ∃ q : Nat × Nat, (Term.string (sIx 7).1 (sIx 7).2.1).eval args s none [] s = some (.ref q.1) ∧ strI (lenS.getD 7 0) (bytS.getD 7 []) q.1 q.2 A s s.heap := st_lit (C := narrow_1_3) hg.2.2.1 hA (own := "BathLeague$Script") (k := 97) (n := 5) (bs := [100, 117, 99, 107, 32]) 344 (by decide +kernel) (by decide +kernel) (by decide +kernel) (by decide +kernel) (by decide +kernel) (by decide)
set_option maxRecDepth 100000 in
set_option maxHeartbeats 4000000 in
theorem st_l8 {args : Array Value} {s : State} {A : Nat → Prop} (hg : GVs args s) (hA : ∀ a : Nat, a < s.heap.size → ¬ A a) : ∃ q : Nat × Nat, (Term.string (sIx 8).1 (sIx 8).2.1).eval args s none [] s = some (.ref q.1) ∧ strI (lenS.getD 8 0) (bytS.getD 8 []) q.1 q.2 A s s.heap := st_lit (C := narrow_1_4) hg.2.2.2 hA (own := "BathLeagueModel") (k := 228) (n := 4) (bs := [116, 97, 112, 32]) 154 (by decide +kernel) (by decide +kernel) (by decide +kernel) (by decide +kernel) (by decide +kernel) (by decide)
set_option maxRecDepth 100000 in
set_option maxHeartbeats 4000000 in
theorem st_l9 {args : Array Value} {s : State} {A : Nat → Prop} (hg : GVs args s) (hA : ∀ a : Nat, a < s.heap.size → ¬ A a) : ∃ q : Nat × Nat, (Term.string (sIx 9).1 (sIx 9).2.1).eval args s none [] s = some (.ref q.1) ∧ strI (lenS.getD 9 0) (bytS.getD 9 []) q.1 q.2 A s s.heap := st_lit (C := narrow_1_4) hg.2.2.2 hA (own := "BathLeagueModel") (k := 230) (n := 4) (bs := [98, 97, 116, 104]) 162 (by decide +kernel) (by decide +kernel) (by decide +kernel) (by decide +kernel) (by decide +kernel) (by decide)
set_option maxRecDepth 100000 in
set_option maxHeartbeats 4000000 in
theorem st_l10 {args : Array Value} {s : State} {A : Nat → Prop} (hg : GVs args s) (hA : ∀ a : Nat, a < s.heap.size → ¬ A a) : ∃ q : Nat × Nat, (Term.string (sIx 10).1 (sIx 10).2.1).eval args s none [] s = some (.ref q.1) ∧ strI (lenS.getD 10 0) (bytS.getD 10 []) q.1 q.2 A s s.heap := st_lit (C := narrow_1_4) hg.2.2.2 hA (own := "BathLeagueModel") (k := 236) (n := 1) (bs := [32]) 171 (by decide +kernel) (by decide +kernel) (by decide +kernel) (by decide +kernel) (by decide +kernel) (by decide)
set_option maxRecDepth 100000 in
set_option maxHeartbeats 4000000 in
theorem st_l11 {args : Array Value} {s : State} {A : Nat → Prop} (hg : GVs args s) (hA : ∀ a : Nat, a < s.heap.size → ¬ A a) : ∃ q : Nat × Nat, (Term.string (sIx 11).1 (sIx 11).2.1).eval args s none [] s = some (.ref q.1) ∧ strI (lenS.getD 11 0) (bytS.getD 11 []) q.1 q.2 A s s.heap := st_lit (C := narrow_1_4) hg.2.2.2 hA (own := "BathLeagueModel") (k := 238) (n := 3) (bs := [99, 119, 104]) 176 (by decide +kernel) (by decide +kernel) (by decide +kernel) (by decide +kernel) (by decide +kernel) (by decide)
set_option maxRecDepth 100000 in
set_option maxHeartbeats 4000000 in
theorem st_l12 {args : Array Value} {s : State} {A : Nat → Prop} (hg : GVs args s) (hA : ∀ a : Nat, a < s.heap.size → ¬ A a) : ∃ q : Nat × Nat, (Term.string (sIx 12).1 (sIx 12).2.1).eval args s none [] s = some (.ref q.1) ∧ strI (lenS.getD 12 0) (bytS.getD 12 []) q.1 q.2 A s s.heap := st_lit (C := narrow_1_4) hg.2.2.2 hA (own := "BathLeagueModel") (k := 247) (n := 4) (bs := [116, 105, 99, 107]) 183 (by decide +kernel) (by decide +kernel) (by decide +kernel) (by decide +kernel) (by decide +kernel) (by decide)
set_option maxRecDepth 100000 in
set_option maxHeartbeats 4000000 in
theorem st_l13 {args : Array Value} {s : State} {A : Nat → Prop} (hg : GVs args s) (hA : ∀ a : Nat, a < s.heap.size → ¬ A a) : ∃ q : Nat × Nat, (Term.string (sIx 13).1 (sIx 13).2.1).eval args s none [] s = some (.ref q.1) ∧ strI (lenS.getD 13 0) (bytS.getD 13 []) q.1 q.2 A s s.heap := st_lit (C := narrow_1_4) hg.2.2.2 hA (own := "BathLeagueModel") (k := 248) (n := 0) (bs := []) 191 (by decide +kernel) (by decide +kernel) (by decide +kernel) (by decide +kernel) (by decide +kernel) (by decide)
set_option maxRecDepth 100000 in
set_option maxHeartbeats 4000000 in
theorem st_l14 {args : Array Value} {s : State} {A : Nat → Prop} (hg : GVs args s) (hA : ∀ a : Nat, a < s.heap.size → ¬ A a) : ∃ q : Nat × Nat, (Term.string (sIx 14).1 (sIx 14).2.1).eval args s none [] s = some (.ref q.1) ∧ strI (lenS.getD 14 0) (bytS.getD 14 []) q.1 q.2 A s s.heap := st_lit (C := narrow_1_4) hg.2.2.2 hA (own := "BathLeagueModel") (k := 250) (n := 5) (bs := [112, 111, 117, 114, 32]) 195 (by decide +kernel) (by decide +kernel) (by decide +kernel) (by decide +kernel) (by decide +kernel) (by decide)
set_option maxRecDepth 100000 in
set_option maxHeartbeats 4000000 in
theorem st_l15 {args : Array Value} {s : State} {A : Nat → Prop} (hg : GVs args s) (hA : ∀ a : Nat, a < s.heap.size → ¬ A a) : ∃ q : Nat × Nat, (Term.string (sIx 15).1 (sIx 15).2.1).eval args s none [] s = some (.ref q.1) ∧ strI (lenS.getD 15 0) (bytS.getD 15 []) q.1 q.2 A s s.heap := st_lit (C := narrow_1_4) hg.2.2.2 hA (own := "BathLeagueModel") (k := 252) (n := 5) (bs := [112, 108, 117, 103, 32]) 204 (by decide +kernel) (by decide +kernel) (by decide +kernel) (by decide +kernel) (by decide +kernel) (by decide)
set_option maxRecDepth 100000 in
set_option maxHeartbeats 4000000 in
theorem st_l16 {args : Array Value} {s : State} {A : Nat → Prop} (hg : GVs args s) (hA : ∀ a : Nat, a < s.heap.size → ¬ A a) : ∃ q : Nat × Nat, (Term.string (sIx 16).1 (sIx 16).2.1).eval args s none [] s = some (.ref q.1) ∧ strI (lenS.getD 16 0) (bytS.getD 16 []) q.1 q.2 A s s.heap := st_lit (C := narrow_1_4) hg.2.2.2 hA (own := "BathLeagueModel") (k := 254) (n := 2) (bs := [45, 43]) 213 (by decide +kernel) (by decide +kernel) (by decide +kernel) (by decide +kernel) (by decide +kernel) (by decide)
set_option maxRecDepth 100000 in
set_option maxHeartbeats 4000000 in
theorem st_l17 {args : Array Value} {s : State} {A : Nat → Prop} (hg : GVs args s) (hA : ∀ a : Nat, a < s.heap.size → ¬ A a) : ∃ q : Nat × Nat, (Term.string (sIx 17).1 (sIx 17).2.1).eval args s none [] s = some (.ref q.1) ∧ strI (lenS.getD 17 0) (bytS.getD 17 []) q.1 q.2 A s s.heap := st_lit (C := narrow_1_4) hg.2.2.2 hA (own := "BathLeagueModel") (k := 256) (n := 5) (bs := [100, 117, 99, 107, 32]) 219 (by decide +kernel) (by decide +kernel) (by decide +kernel) (by decide +kernel) (by decide +kernel) (by decide)
set_option maxRecDepth 100000 in
set_option maxHeartbeats 4000000 in
theorem st_l18 {args : Array Value} {s : State} {A : Nat → Prop} (hg : GVs args s) (hA : ∀ a : Nat, a < s.heap.size → ¬ A a) : ∃ q : Nat × Nat, (Term.string (sIx 18).1 (sIx 18).2.1).eval args s none [] s = some (.ref q.1) ∧ strI (lenS.getD 18 0) (bytS.getD 18 []) q.1 q.2 A s s.heap := st_lit (C := narrow_1_4) hg.2.2.2 hA (own := "BathLeagueModel") (k := 258) (n := 5) (bs := [106, 111, 105, 110, 32]) 229 (by decide +kernel) (by decide +kernel) (by decide +kernel) (by decide +kernel) (by decide +kernel) (by decide)
set_option maxRecDepth 100000 in
set_option maxHeartbeats 4000000 in
theorem st_l19 {args : Array Value} {s : State} {A : Nat → Prop} (hg : GVs args s) (hA : ∀ a : Nat, a < s.heap.size → ¬ A a) : ∃ q : Nat × Nat, (Term.string (sIx 19).1 (sIx 19).2.1).eval args s none [] s = some (.ref q.1) ∧ strI (lenS.getD 19 0) (bytS.getD 19 []) q.1 q.2 A s s.heap := st_lit (C := narrow_1_4) hg.2.2.2 hA (own := "BathLeagueModel") (k := 260) (n := 6) (bs := [108, 101, 97, 118, 101, 32]) 239 (by decide +kernel) (by decide +kernel) (by decide +kernel) (by decide +kernel) (by decide +kernel) (by decide)
set_option maxRecDepth 100000 in
set_option maxHeartbeats 4000000 in
theorem st_ref : ∀ i, i < 20 → Cond.stringRef (sIx i).1 (sIx i).2.1 (sIx i).2.2 ∈ lw_tbl := by decide +kernel
set_option maxRecDepth 100000 in
set_option maxHeartbeats 4000000 in
theorem st_SK {args : Array Value} {s : State} {A : Nat → Prop} (hts : ∀ w ∈ lw_tbl, w.before args s = true) (hg : GVs args s) (hA : ∀ a : Nat, a < s.heap.size → ¬ A a) : ∃ kS vS : Nat → Nat, SK kS vS A s := by
  have h0 : ∀ i : Nat, ∃ q : Nat × Nat, i < 20 → (Term.string (sIx i).1 (sIx i).2.1).eval args s none [] s = some (.ref q.1) ∧ strI (lenS.getD i 0) (bytS.getD i []) q.1 q.2 A s s.heap := by
    intro i
    by_cases hi : i < 20
    · have g : 0 ≤ i := Nat.zero_le i
      rcases Nat.eq_or_lt_of_le g with e9 | g
      · subst e9
        obtain ⟨q, hq⟩ := st_l0 hg hA
        exact ⟨q, fun _ => hq⟩
      have g : 1 ≤ i := g
      rcases Nat.eq_or_lt_of_le g with e9 | g
      · subst e9
        obtain ⟨q, hq⟩ := st_l1 hg hA
        exact ⟨q, fun _ => hq⟩
      have g : 2 ≤ i := g
      rcases Nat.eq_or_lt_of_le g with e9 | g
      · subst e9
        obtain ⟨q, hq⟩ := st_l2 hg hA
        exact ⟨q, fun _ => hq⟩
      have g : 3 ≤ i := g
      rcases Nat.eq_or_lt_of_le g with e9 | g
      · subst e9
        obtain ⟨q, hq⟩ := st_l3 hg hA
        exact ⟨q, fun _ => hq⟩
      have g : 4 ≤ i := g
      rcases Nat.eq_or_lt_of_le g with e9 | g
      · subst e9
        obtain ⟨q, hq⟩ := st_l4 hg hA
        exact ⟨q, fun _ => hq⟩
      have g : 5 ≤ i := g
      rcases Nat.eq_or_lt_of_le g with e9 | g
      · subst e9
        obtain ⟨q, hq⟩ := st_l5 hg hA
        exact ⟨q, fun _ => hq⟩
      have g : 6 ≤ i := g
      rcases Nat.eq_or_lt_of_le g with e9 | g
      · subst e9
        obtain ⟨q, hq⟩ := st_l6 hg hA
        exact ⟨q, fun _ => hq⟩
      have g : 7 ≤ i := g
      rcases Nat.eq_or_lt_of_le g with e9 | g
      · subst e9
        obtain ⟨q, hq⟩ := st_l7 hg hA
        exact ⟨q, fun _ => hq⟩
      have g : 8 ≤ i := g
      rcases Nat.eq_or_lt_of_le g with e9 | g
      · subst e9
        obtain ⟨q, hq⟩ := st_l8 hg hA
        exact ⟨q, fun _ => hq⟩
      have g : 9 ≤ i := g
      rcases Nat.eq_or_lt_of_le g with e9 | g
      · subst e9
        obtain ⟨q, hq⟩ := st_l9 hg hA
        exact ⟨q, fun _ => hq⟩
      have g : 10 ≤ i := g
      rcases Nat.eq_or_lt_of_le g with e9 | g
      · subst e9
        obtain ⟨q, hq⟩ := st_l10 hg hA
        exact ⟨q, fun _ => hq⟩
      have g : 11 ≤ i := g
      rcases Nat.eq_or_lt_of_le g with e9 | g
      · subst e9
        obtain ⟨q, hq⟩ := st_l11 hg hA
        exact ⟨q, fun _ => hq⟩
      have g : 12 ≤ i := g
      rcases Nat.eq_or_lt_of_le g with e9 | g
      · subst e9
        obtain ⟨q, hq⟩ := st_l12 hg hA
        exact ⟨q, fun _ => hq⟩
      have g : 13 ≤ i := g
      rcases Nat.eq_or_lt_of_le g with e9 | g
      · subst e9
        obtain ⟨q, hq⟩ := st_l13 hg hA
        exact ⟨q, fun _ => hq⟩
      have g : 14 ≤ i := g
      rcases Nat.eq_or_lt_of_le g with e9 | g
      · subst e9
        obtain ⟨q, hq⟩ := st_l14 hg hA
        exact ⟨q, fun _ => hq⟩
      have g : 15 ≤ i := g
      rcases Nat.eq_or_lt_of_le g with e9 | g
      · subst e9
        obtain ⟨q, hq⟩ := st_l15 hg hA
        exact ⟨q, fun _ => hq⟩
      have g : 16 ≤ i := g
      rcases Nat.eq_or_lt_of_le g with e9 | g
      · subst e9
        obtain ⟨q, hq⟩ := st_l16 hg hA
        exact ⟨q, fun _ => hq⟩
      have g : 17 ≤ i := g
      rcases Nat.eq_or_lt_of_le g with e9 | g
      · subst e9
        obtain ⟨q, hq⟩ := st_l17 hg hA
        exact ⟨q, fun _ => hq⟩
      have g : 18 ≤ i := g
      rcases Nat.eq_or_lt_of_le g with e9 | g
      · subst e9
        obtain ⟨q, hq⟩ := st_l18 hg hA
        exact ⟨q, fun _ => hq⟩
      have g : 19 ≤ i := g
      rcases Nat.eq_or_lt_of_le g with e9 | g
      · subst e9
        obtain ⟨q, hq⟩ := st_l19 hg hA
        exact ⟨q, fun _ => hq⟩
      have g : 20 ≤ i := g
      omega
    · exact ⟨(0, 0), fun h => absurd h hi⟩
  obtain ⟨ad, had⟩ := Classical.axiomOfChoice h0
  refine ⟨fun i => (ad i).1, fun i => (ad i).2, ⟨fun i hi => (had i hi).2, trivial⟩, fun i hi => ?_, st_cmp hts hg hA, st_fmt hts hg hA⟩
  have e1 : (Term.string (sIx i).1 (sIx i).2.1).eval #[] s none [] s = some (.ref (ad i).1) := (had i hi).1
  exact vk_R.of (hts _ (st_ref i hi)) e1
set_option maxRecDepth 100000 in
set_option maxHeartbeats 4000000 in
theorem st_xs0 : ∀ w ∈ castW, w ∈ lw_tbl := by decide +kernel
set_option maxRecDepth 100000 in
set_option maxHeartbeats 4000000 in
theorem st_xs1 : ∀ q ∈ strX, Cond.stringRef RX7 q.1 q.2 ∈ lw_tbl := by decide +kernel
set_option maxRecDepth 100000 in
set_option maxHeartbeats 4000000 in
theorem st_xs2 {args : Array Value} {s : State} (hg : GVs args s) : ∀ q ∈ strX, (Cond.exactly (.string RX7 q.1) "java/lang/String").before args s = true := by
  simp only [strX, List.forall_mem_cons, List.not_mem_nil, false_implies, implies_true, and_true]
  refine ⟨gv_w hg.2.1 238 (by decide +kernel), gv_w hg.2.1 261 (by decide +kernel), gv_w hg.2.1 296 (by decide +kernel), gv_w hg.2.1 324 (by decide +kernel), gv_w hg.2.1 351 (by decide +kernel), gv_w hg.2.2.1 23 (by decide +kernel), gv_w hg.2.2.1 67 (by decide +kernel), gv_w hg.2.2.1 192 (by decide +kernel), gv_w hg.2.2.1 229 (by decide +kernel), gv_w hg.2.2.1 277 (by decide +kernel), gv_w hg.2.2.1 372 (by decide +kernel), gv_w hg.2.2.2 18 (by decide +kernel), gv_w hg.2.2.2 38 (by decide +kernel), gv_w hg.2.2.2 68 (by decide +kernel), gv_w hg.2.2.2 102 (by decide +kernel), gv_w hg.2.2.2 130 (by decide +kernel), gv_w hg.1 327 (by decide +kernel), gv_w hg.1 352 (by decide +kernel), gv_w hg.1 387 (by decide +kernel), gv_w hg.2.1 20 (by decide +kernel), gv_w hg.2.1 49 (by decide +kernel), gv_w hg.2.1 81 (by decide +kernel), gv_w hg.2.1 398 (by decide +kernel), gv_w hg.2.1 106 (by decide +kernel), gv_w hg.2.1 142 (by decide +kernel), gv_w hg.2.1 205 (by decide +kernel)⟩
set_option maxRecDepth 100000 in
set_option maxHeartbeats 4000000 in
theorem st_xs3 {args : Array Value} {s : State} (hg : GVs args s) : ∀ q ∈ ncX, (Cond.not (.castable q.1 q.2)).before args s = true := by
  simp only [ncX, List.forall_mem_cons, List.not_mem_nil, false_implies, implies_true, and_true]
  refine ⟨gv_w hg.1 265 (by decide +kernel), gv_w hg.1 231 (by decide +kernel), gv_w hg.1 301 (by decide +kernel), gv_w hg.1 283 (by decide +kernel), gv_w hg.1 319 (by decide +kernel), gv_w hg.1 249 (by decide +kernel), gv_w hg.1 232 (by decide +kernel), gv_w hg.1 302 (by decide +kernel), gv_w hg.1 284 (by decide +kernel), gv_w hg.1 320 (by decide +kernel), gv_w hg.1 250 (by decide +kernel), gv_w hg.1 266 (by decide +kernel), gv_w hg.1 303 (by decide +kernel), gv_w hg.1 285 (by decide +kernel), gv_w hg.1 321 (by decide +kernel), gv_w hg.1 251 (by decide +kernel), gv_w hg.1 267 (by decide +kernel), gv_w hg.1 233 (by decide +kernel), gv_w hg.1 286 (by decide +kernel), gv_w hg.1 322 (by decide +kernel), gv_w hg.1 252 (by decide +kernel), gv_w hg.1 268 (by decide +kernel), gv_w hg.1 234 (by decide +kernel), gv_w hg.1 304 (by decide +kernel), gv_w hg.1 323 (by decide +kernel), gv_w hg.1 253 (by decide +kernel), gv_w hg.1 270 (by decide +kernel), gv_w hg.1 236 (by decide +kernel), gv_w hg.1 306 (by decide +kernel), gv_w hg.1 288 (by decide +kernel)⟩
set_option maxRecDepth 100000 in
set_option maxHeartbeats 4000000 in
theorem st_XS {args : Array Value} {s : State} {A : Nat → Prop} (hts : ∀ w ∈ lw_tbl, w.before args s = true) (hg : GVs args s) (hA : ∀ a : Nat, a < s.heap.size → ¬ A a) : XS A s := by
  refine ⟨vx_Zqof (hts (.laysStatic Bundle.tN "UNASSIGNED_STACK" Bundle.steD) (by decide +kernel)) (hts (.initialized Bundle.tN) (by decide +kernel)) (gv_w hg.1 3 (by decide +kernel)) hA, vx_Zqof (hts (.laysStatic Bundle.tN "SUPPRESSED_SENTINEL" Bundle.listD) (by decide +kernel)) (hts (.initialized Bundle.tN) (by decide +kernel)) (gv_w hg.1 4 (by decide +kernel)) hA, fun w hw => va_Nw.of (castW_tab w hw) (hts w (st_xs0 w hw)), fun q hq => ?_, fun q hq => va_Nc.of (st_xs3 hg q hq)⟩
  obtain ⟨a, c, cA, kA, q1, -⟩ := Cond.exactly_spec (args := args) (first := s) (o := none) (s := s) (idx := []) (t := .string RX7 q.1) (cls := "java/lang/String") (st_xs2 hg q hq)
  have e1 : (Term.string RX7 q.1).eval #[] s none [] s = some (.ref a) := q1
  exact ⟨a, vk_R.of (hts _ (st_xs1 q hq)) e1⟩
theorem st_DZ {args : Array Value} {s : State} {A : Nat → Prop} (hts : ∀ w ∈ lw_tbl, w.before args s = true) (hg : GVs args s) (hA : ∀ a : Nat, a < s.heap.size → ¬ A a) : DZ A s := ⟨st_one hts hg hA, st_ten hts hg hA⟩
theorem st_TZ {args : Array Value} {s : State} {A : Nat → Prop} (hts : ∀ w ∈ lw_tbl, w.before args s = true) (hg : GVs args s) (hA : ∀ a : Nat, a < s.heap.size → ¬ A a) : TZ A s := st_tap hts hg hA
theorem st_arr {ty : FieldType} {args : Array Value} {s : State} (h : (Cond.arrayClass ty).before args s = true) (hn : ∀ C, ty ≠ .object C) : ∃ c : ClassId, ArrOfT s c ty ∧ va_RA s c ty := by
  obtain ⟨c, k, comp, h1, h2, h3⟩ := Cond.arrayClass_spec h
  refine ⟨c, fun n z => ⟨fun k h => by cases h, k, h2, comp, h3⟩, ?_⟩
  cases ty with
  | object C => exact absurd rfl (hn C)
  | _ => exact h1
theorem st_arrO {C : String} {args : Array Value} {s : State} (h : (Cond.arrayOver (.object C)).before args s = true) : ∃ c : ClassId, ArrOfT s c (.object C) ∧ va_RA s c (.object C) := by
  obtain ⟨comp, c, k, h1, h2, h3, h4, h5⟩ := Cond.arrayOver_spec h
  exact ⟨c, fun n z => ⟨fun k h => by cases h, k, h3, comp, h4⟩, k, comp, h3, h4, h1, h5⟩
set_option maxRecDepth 100000 in
set_option maxHeartbeats 4000000 in
theorem st_c0 {args : Array Value} {s : State} (hts : ∀ w ∈ lw_tbl, w.before args s = true) : ∃ (cC : ClassId) (iS : Nat → Nat), u_Kn s RJ0 TJ0 4 cC iS := u_known (n := 4) hts (show ∀ w ∈ u_ws RJ0 TJ0 4, w ∈ lw_tbl from (by decide +kernel)) (hts (.instantiable RJ0 4) (by decide +kernel))
set_option maxRecDepth 100000 in
set_option maxHeartbeats 4000000 in
theorem st_c1 {args : Array Value} {s : State} (hts : ∀ w ∈ lw_tbl, w.before args s = true) : ∃ (cC : ClassId) (iS : Nat → Nat), u_Kn s RJ4 TJ4 4 cC iS := u_known (n := 4) hts (show ∀ w ∈ u_ws RJ4 TJ4 4, w ∈ lw_tbl from (by decide +kernel)) (hts (.instantiable RJ4 4) (by decide +kernel))
set_option maxRecDepth 100000 in
set_option maxHeartbeats 4000000 in
theorem st_c2 {args : Array Value} {s : State} (hts : ∀ w ∈ lw_tbl, w.before args s = true) : ∃ (cC : ClassId) (iS : Nat → Nat), u_Kn s RJx00060 TJx00060 6 cC iS := u_known (n := 6) hts (show ∀ w ∈ u_ws RJx00060 TJx00060 6, w ∈ lw_tbl from (by decide +kernel)) (hts (.instantiable RJx00060 6) (by decide +kernel))
set_option maxRecDepth 100000 in
set_option maxHeartbeats 4000000 in
theorem st_c3 {args : Array Value} {s : State} (hts : ∀ w ∈ lw_tbl, w.before args s = true) : ∃ (cC : ClassId) (iS : Nat → Nat), u_Kn s RJx7c733 TJx7c733 6 cC iS := u_known (n := 6) hts (show ∀ w ∈ u_ws RJx7c733 TJx7c733 6, w ∈ lw_tbl from (by decide +kernel)) (hts (.instantiable RJx7c733 6) (by decide +kernel))
set_option maxRecDepth 100000 in
set_option maxHeartbeats 4000000 in
theorem st_c4 {args : Array Value} {s : State} (hts : ∀ w ∈ lw_tbl, w.before args s = true) : ∃ (cC : ClassId) (iS : Nat → Nat), u_Kn s RX0 TX0 5 cC iS := u_known (n := 5) hts (show ∀ w ∈ u_ws RX0 TX0 5, w ∈ lw_tbl from (by decide +kernel)) (hts (.instantiable RX0 5) (by decide +kernel))
set_option maxRecDepth 100000 in
set_option maxHeartbeats 4000000 in
theorem st_c5 {args : Array Value} {s : State} (hts : ∀ w ∈ lw_tbl, w.before args s = true) : ∃ (cC : ClassId) (iS : Nat → Nat), u_Kn s RX1 TX1 6 cC iS := u_known (n := 6) hts (show ∀ w ∈ u_ws RX1 TX1 6, w ∈ lw_tbl from (by decide +kernel)) (hts (.instantiable RX1 6) (by decide +kernel))
set_option maxRecDepth 100000 in
set_option maxHeartbeats 4000000 in
theorem st_c6 {args : Array Value} {s : State} (hts : ∀ w ∈ lw_tbl, w.before args s = true) : ∃ (cC : ClassId) (iS : Nat → Nat), u_Kn s RX2 TX2 4 cC iS := u_known (n := 4) hts (show ∀ w ∈ u_ws RX2 TX2 4, w ∈ lw_tbl from (by decide +kernel)) (hts (.instantiable RX2 4) (by decide +kernel))
set_option maxRecDepth 100000 in
set_option maxHeartbeats 4000000 in
theorem st_c7 {args : Array Value} {s : State} (hts : ∀ w ∈ lw_tbl, w.before args s = true) : ∃ (cC : ClassId) (iS : Nat → Nat), u_Kn s RX3 TX3 3 cC iS := u_known (n := 3) hts (show ∀ w ∈ u_ws RX3 TX3 3, w ∈ lw_tbl from (by decide +kernel)) (hts (.instantiable RX3 3) (by decide +kernel))
set_option maxRecDepth 100000 in
set_option maxHeartbeats 4000000 in
theorem st_c8 {args : Array Value} {s : State} (hts : ∀ w ∈ lw_tbl, w.before args s = true) : ∃ (cC : ClassId) (iS : Nat → Nat), u_Kn s RX4 TX4 9 cC iS := u_known (n := 9) hts (show ∀ w ∈ u_ws RX4 TX4 9, w ∈ lw_tbl from (by decide +kernel)) (hts (.instantiable RX4 9) (by decide +kernel))
set_option maxRecDepth 100000 in
set_option maxHeartbeats 4000000 in
theorem st_c9 {args : Array Value} {s : State} (hts : ∀ w ∈ lw_tbl, w.before args s = true) : ∃ (cC : ClassId) (iS : Nat → Nat), u_Kn s RX5 TX5 4 cC iS := u_known (n := 4) hts (show ∀ w ∈ u_ws RX5 TX5 4, w ∈ lw_tbl from (by decide +kernel)) (hts (.instantiable RX5 4) (by decide +kernel))
set_option maxRecDepth 100000 in
set_option maxHeartbeats 4000000 in
theorem st_c10 {args : Array Value} {s : State} (hts : ∀ w ∈ lw_tbl, w.before args s = true) : ∃ (cC : ClassId) (iS : Nat → Nat), u_Kn s RX6 TX6 6 cC iS := u_known (n := 6) hts (show ∀ w ∈ u_ws RX6 TX6 6, w ∈ lw_tbl from (by decide +kernel)) (hts (.instantiable RX6 6) (by decide +kernel))
set_option maxRecDepth 100000 in
set_option maxHeartbeats 4000000 in
theorem st_c11 {args : Array Value} {s : State} (hts : ∀ w ∈ lw_tbl, w.before args s = true) : ∃ (cC : ClassId) (iS : Nat → Nat), u_Kn s RX7 TX7 9 cC iS := u_known (n := 9) hts (show ∀ w ∈ u_ws RX7 TX7 9, w ∈ lw_tbl from (by decide +kernel)) (hts (.instantiable RX7 9) (by decide +kernel))
set_option maxRecDepth 100000 in
set_option maxHeartbeats 4000000 in
theorem st_c12 {args : Array Value} {s : State} (hts : ∀ w ∈ lw_tbl, w.before args s = true) : ∃ (cC : ClassId) (iS : Nat → Nat), u_Kn s RX8 TX8 18 cC iS := u_known (n := 18) hts (show ∀ w ∈ u_ws RX8 TX8 18, w ∈ lw_tbl from (by decide +kernel)) (hts (.instantiable RX8 18) (by decide +kernel))
set_option maxRecDepth 100000 in
set_option maxHeartbeats 4000000 in
theorem st_nest : ∀ w ∈ nestW, w ∈ lw_tbl := by decide +kernel
set_option maxRecDepth 100000 in
set_option maxHeartbeats 4000000 in
theorem st_KK {args : Array Value} {s : State} (hts : ∀ w ∈ lw_tbl, w.before args s = true) : ∃ (G : va_G) (cy : Nat → ClassId), KK G cy s := by
  obtain ⟨c0, i0, k0⟩ := st_c0 hts
  obtain ⟨c1, i1, k1⟩ := st_c1 hts
  obtain ⟨c2, i2, k2⟩ := st_c2 hts
  obtain ⟨c3, i3, k3⟩ := st_c3 hts
  obtain ⟨c4, i4, k4⟩ := st_c4 hts
  obtain ⟨c5, i5, k5⟩ := st_c5 hts
  obtain ⟨c6, i6, k6⟩ := st_c6 hts
  obtain ⟨c7, i7, k7⟩ := st_c7 hts
  obtain ⟨c8, i8, k8⟩ := st_c8 hts
  obtain ⟨c9, i9, k9⟩ := st_c9 hts
  obtain ⟨c10, i10, k10⟩ := st_c10 hts
  obtain ⟨c11, i11, k11⟩ := st_c11 hts
  obtain ⟨c12, i12, k12⟩ := st_c12 hts
  obtain ⟨t0, a0, b0⟩ := st_arr (ty := .byte) (hts (.arrayClass .byte) (by decide +kernel)) (fun C h => by cases h)
  obtain ⟨t1, a1, b1⟩ := st_arr (ty := .char) (hts (.arrayClass .char) (by decide +kernel)) (fun C h => by cases h)
  obtain ⟨t2, a2, b2⟩ := st_arr (ty := .int) (hts (.arrayClass .int) (by decide +kernel)) (fun C h => by cases h)
  obtain ⟨t3, a3, b3⟩ := st_arr (ty := .boolean) (hts (.arrayClass .boolean) (by decide +kernel)) (fun C h => by cases h)
  obtain ⟨t4, a4, b4⟩ := st_arrO (C := "BathLeague$State") (hts (.arrayOver (.object "BathLeague$State")) (by decide +kernel))
  obtain ⟨t5, a5, b5⟩ := st_arr (ty := .long) (hts (.arrayClass .long) (by decide +kernel)) (fun C h => by cases h)
  obtain ⟨t6, a6, b6⟩ := st_arr (ty := .double) (hts (.arrayClass .double) (by decide +kernel)) (fun C h => by cases h)
  refine ⟨(fun k => [c0, c1, c2, c3, c4, c5, c6, c7, c8, c9, c10, c11, c12].getD k c0, fun k => [i0, i1, i2, i3, i4, i5, i6, i7, i8, i9, i10, i11, i12].getD k i0), fun k => [t0, t1, t2, t3, t4, t5, t6].getD k t0, ⟨?_, ?_⟩, fun w hw => va_Nw.of (nestW_tab w hw) (hts w (st_nest w hw))⟩
  · intro k q hq
    match k, hq with
    | 0, hq => obtain rfl : ((RJ0, TJ0, 4) : vw_C) = q := Option.some.inj hq; exact k0
    | 1, hq => obtain rfl : ((RJ4, TJ4, 4) : vw_C) = q := Option.some.inj hq; exact k1
    | 2, hq => obtain rfl : ((RJx00060, TJx00060, 6) : vw_C) = q := Option.some.inj hq; exact k2
    | 3, hq => obtain rfl : ((RJx7c733, TJx7c733, 6) : vw_C) = q := Option.some.inj hq; exact k3
    | 4, hq => obtain rfl : ((RX0, TX0, 5) : vw_C) = q := Option.some.inj hq; exact k4
    | 5, hq => obtain rfl : ((RX1, TX1, 6) : vw_C) = q := Option.some.inj hq; exact k5
    | 6, hq => obtain rfl : ((RX2, TX2, 4) : vw_C) = q := Option.some.inj hq; exact k6
    | 7, hq => obtain rfl : ((RX3, TX3, 3) : vw_C) = q := Option.some.inj hq; exact k7
    | 8, hq => obtain rfl : ((RX4, TX4, 9) : vw_C) = q := Option.some.inj hq; exact k8
    | 9, hq => obtain rfl : ((RX5, TX5, 4) : vw_C) = q := Option.some.inj hq; exact k9
    | 10, hq => obtain rfl : ((RX6, TX6, 6) : vw_C) = q := Option.some.inj hq; exact k10
    | 11, hq => obtain rfl : ((RX7, TX7, 9) : vw_C) = q := Option.some.inj hq; exact k11
    | 12, hq => obtain rfl : ((RX8, TX8, 18) : vw_C) = q := Option.some.inj hq; exact k12
    | n + 13, hq => exact absurd (show (none : Option vw_C) = some q from hq) (by simp)
  · intro k q hq
    match k, hq with
    | 0, hq => obtain rfl : ((t0, .byte) : ClassId × FieldType) = q := Option.some.inj hq; exact ⟨a0, b0⟩
    | 1, hq => obtain rfl : ((t1, .char) : ClassId × FieldType) = q := Option.some.inj hq; exact ⟨a1, b1⟩
    | 2, hq => obtain rfl : ((t2, .int) : ClassId × FieldType) = q := Option.some.inj hq; exact ⟨a2, b2⟩
    | 3, hq => obtain rfl : ((t3, .boolean) : ClassId × FieldType) = q := Option.some.inj hq; exact ⟨a3, b3⟩
    | 4, hq => obtain rfl : ((t4, .object "BathLeague$State") : ClassId × FieldType) = q := Option.some.inj hq; exact ⟨a4, b4⟩
    | 5, hq => obtain rfl : ((t5, .long) : ClassId × FieldType) = q := Option.some.inj hq; exact ⟨a5, b5⟩
    | 6, hq => obtain rfl : ((t6, .double) : ClassId × FieldType) = q := Option.some.inj hq; exact ⟨a6, b6⟩
    | n + 7, hq => exact absurd (show (none : Option (ClassId × FieldType)) = some q from hq) (by simp)
