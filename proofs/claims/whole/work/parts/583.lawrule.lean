/-! the rules of the law's calls, said over its own world -/
def SameA (c d : va_W) : Prop := c.map Prod.fst = d.map Prod.fst
theorem SameA.rf {c : va_W} : SameA c c := rfl
theorem SameA.one {x : Nat} {u v : va_E} : SameA [(x, u)] [(x, v)] := rfl
theorem SameA.st {cy : Nat → ClassId} {a : Nat → Nat} {σ τ : St} : SameA (sWd cy a σ) (sWd cy a τ) := rfl
theorem SameA.ring {cy : Nat → ClassId} {ra : Nat → Nat → Nat} {ρ ρ' : Nat → St} : SameA (ringW cy ra ρ) (ringW cy ra ρ') := by
  unfold SameA ringW ringC
  rw [List.map_flatten, List.map_flatten, List.map_map, List.map_map]
  exact congrArg List.flatten (List.map_congr_left (fun k _ => SameA.st (cy := cy) (a := ra k) (σ := ρ k) (τ := ρ' k)))
def SameL : List va_W → List va_W → Prop
  | [], [] => True
  | c :: cs, d :: ds => SameA c d ∧ SameL cs ds
  | [], _ :: _ => False
  | _ :: _, [] => False
theorem SameL.nil : SameL [] [] := trivial
theorem SameL.cons {c d : va_W} {cs ds : List va_W} (h : SameA c d) (t : SameL cs ds) : SameL (c :: cs) (d :: ds) := ⟨h, t⟩
theorem SameL.len : ∀ {cs ds : List va_W}, SameL cs ds → cs.map List.length = ds.map List.length
  | [], [], _ => rfl
  | c :: cs, d :: ds, h => by
    have e : c.length = d.length := by
      have := congrArg List.length h.1
      rwa [List.length_map, List.length_map] at this
    rw [List.map_cons, List.map_cons, e, SameL.len h.2]
  | [], _ :: _, h => h.elim
  | _ :: _, [], h => h.elim
theorem SameL.flat : ∀ {cs ds : List va_W}, SameL cs ds → cs.flatten.map Prod.fst = ds.flatten.map Prod.fst
  | [], [], _ => rfl
  | c :: cs, d :: ds, h => by
    have e : c.map Prod.fst = d.map Prod.fst := h.1
    rw [List.flatten_cons, List.flatten_cons, List.map_append, List.map_append, e, SameL.flat h.2]
  | [], _ :: _, h => h.elim
  | _ :: _, [], h => h.elim
theorem SameL.fst {cs ds : List va_W} (h : SameL cs ds) : (fl cs).map Prod.fst = (fl ds).map Prod.fst := by
  rw [fl_eq, fl_eq]
  exact h.flat
/-- a world of single cells -/
def ones (w : va_W) : List va_W := w.map fun x => [x]
theorem ones_fl : ∀ w : va_W, fl (ones w) = w := fun w => by
  rw [fl_eq]
  unfold ones
  induction w with
  | nil => rfl
  | cons x w ih => rw [List.map_cons, List.flatten_cons, ih]; rfl
theorem SameR.nil : SameL (ones []) (ones []) := trivial
theorem SameR.cons {x : Nat} {u v : va_E} {w1 w : va_W} (t : SameL (ones w1) (ones w)) : SameL (ones ((x, u) :: w1)) (ones ((x, v) :: w)) := ⟨SameA.one, t⟩
theorem LI.of {n : Nat} {s S : LwS} (h : LI n s) (e1 : S.σ = s.σ) (e2 : S.ς = s.ς) (e3 : S.ρ = s.ρ) (e4 : S.hs = s.hs) (e5 : S.fV = s.fV) (e6 : S.nx = s.nx) (e7 : S.ct = s.ct) (e8 : S.fP = s.fP) (e9 : S.ep = s.ep) (e10 : S.fc = s.fc) (e11 : S.LN = s.LN) (e12 : S.f = s.f) (e13 : S.nb = s.nb) (e14 : S.fO = s.fO) (e15 : S.fb = s.fb) : LI n S := by
  unfold LI at h ⊢
  rw [e1, e2, e3, e4, e5, e6, e7, e8, e9, e10, e11, e12, e13, e14, e15]
  exact h
theorem LCh.left {cy : Nat → ClassId} {a : LA} {S s t : LwS} (e1 : S.σ = s.σ) (e2 : S.υ = s.υ) (e3 : S.ς = s.ς) (e4 : S.hs = s.hs) (e5 : S.ep = s.ep) (e6 : S.fc = s.fc) (e7 : S.ml = s.ml) (e8 : S.nx = s.nx) (e9 : S.ct = s.ct) (e10 : S.nb = s.nb) (e11 : S.n = s.n) (e12 : S.LN = s.LN) (e13 : S.ρ = s.ρ) (e14 : S.x = s.x) (e15 : S.f = s.f) (e16 : S.gk = s.gk) (e17 : S.g1 = s.g1) (e18 : S.g2 = s.g2) (e19 : S.g3 = s.g3) (e20 : S.fb = s.fb) (e21 : S.fo = s.fo) (e22 : S.fd = s.fd) : LCh cy a S t = LCh cy a s t := by
  unfold LCh
  rw [e1, e2, e3, e4, e5, e6, e7, e8, e9, e10, e11, e12, e13, e14, e15, e16, e17, e18, e19, e20, e21, e22]
theorem LCh.right {cy : Nat → ClassId} {a : LA} {S s t : LwS} (e1 : S.σ = t.σ) (e4 : S.hs = t.hs) (e5 : S.ep = t.ep) (e6 : S.fc = t.fc) (e8 : S.th = t.th) (e9 : S.ct = t.ct) (e10 : S.nb = t.nb) (e12 : S.LN = t.LN) (e13 : S.CM = t.CM) (e14 : S.x0 = t.x0) (e15 : S.f = t.f) (e16 : S.fB = t.fB) (e17 : S.fA = t.fA) (e18 : S.fV = t.fV) (e19 : S.fP = t.fP) (e20 : S.fO = t.fO) (e21 : S.g = t.g) : LCh cy a s S = LCh cy a s t := by
  unfold LCh
  rw [e1, e4, e5, e6, e8, e9, e10, e12, e13, e14, e15, e16, e17, e18, e19, e20, e21]
section LWR
variable {p : Program} {l : Launch} {e : Env} {s : State} {m : MethodId} {below : List Frame} {meth : Method} {cq : Code} {G : va_G} {cy : Nat → ClassId} {kS vS : Nat → Nat} {A : Nat → Prop} {a : LA} {b L : Nat} {xs : Nat → Int32} {Q : State → Prop} {H : Heap} {locs : List Loc} {cells slots : Nat}
variable {pc : Nat} {ls : Array Slot} {rest st0 : List Value}
variable {y : MethodName} {bytes : ByteArray} {maxL n index mc ms : Nat} {ret : Option FieldType} {hh : List (Nat × Nat × Nat × Nat)} {wy : List Cond} {rm : Room} {As : List Value}
theorem lw_w {Wc Wn cs ns : List va_W} {r9 : Int32} (hC : LC l p s m meth cq G cy kS vS A b L xs) (hM : WX l y wy rm G (PU G cy kS vS (fl cs)) As (fl cs) (fl ns) r9 mc ms) (cw : vx_CSW room_1 s #[.ref b] RL index y bytes maxL ret hh wy rm mc ms n) (js : List Nat) (h : js.map (fun j => Wc[j]?) = cs.map some) (hnd : va_nd js = true) (hf : SameL ns cs) (hw : csets Wc js ns = Wn)
    (hP : va_P G vwCl (fl Wc) H) (hD : va_D A (fl Wc)) (hS : va_S A s.heap H locs) (hn : As.length = n) (hsize : ls.size = 9) (hstack : st0 = As.reverse ++ rest) (hW : (rest.map fun v => v.category).sum ≤ 8) (hr : cells + mc ≤ room_1.cells ∧ slots + ms ≤ room_1.slots) (hdg : decode code pc = .ok (.invokestatic index, 3))
    (kk : ∀ (H1 : Heap) (locs1 : List Loc), va_P G vwCl (fl Wn) H1 → va_D A (fl Wn) → va_S A s.heap H1 locs1 → W p l e room_1 s m #[.ref b] below meth cq H1 locs1 (cells + mc) (slots + ms) Q (F0 m (pc + 3) ls (.int r9 :: rest))) : W p l e room_1 s m #[.ref b] below meth cq H locs cells slots Q (F0 m pc ls st0) :=
  c_wxS hC.S9 hM cw PU.blind (PU.at hC.hXS hC.hTZ hC.hSK hC.hDZ hS (wA_subF hD js h) hC.hK (PpartC hP js h)) hP hD hS (poss Wc js) (poss_F h) (poss_nd hnd) hf.fst ((wsets_F h hnd hf.len).trans (congrArg fl hw)) hn hsize hstack hW hr hdg kk
theorem lw_am {s1 t1 : LwS} (hC : LC l p s m meth cq G cy kS vS A b L xs) (hP : va_P G vwCl (fl (LCh cy a s1 t1)) H) : ∃ cellB : Cell, H[a.am]? = some cellB ∧ cellB.vm.isStatics = false ∧ s.vm.findClass RX8 = some cellB.cls :=
  va_recv hC.hK.1 hP (ci := 12) (q0 := offs (LCh cy a s1 t1) 15 + 0) rfl ((fl_at (Wc := LCh cy a s1 t1) (j := 15) (i := 0) (c := [(a.am, .inr (12, [.ref a.aS, .ref a.aBf, .ref a.aAs, .ref a.aSv, .int t1.hs, .ref a.aPa, .int (nI t1.ct), .int t1.th, .ref a.aOu, .int (nI t1.nb), .ref a.aTx, .int (nI t1.LN), .int (nI t1.x0.1), .int (bI t1.x0.2), .int t1.ep, .int t1.fc, .ref a.aCo, .int (nI t1.CM)]))]) rfl (Nat.le_of_ble_eq_true rfl)).trans rfl)
theorem ones_at {Wc : List va_W} {js : List Nat} {wc : va_W} (h : js.map (fun j => Wc[j]?) = (ones wc).map some) (hP : va_P G vwCl (fl Wc) H) : va_P G vwCl wc H := by
  have h1 := PpartC hP js h
  rwa [ones_fl] at h1
theorem lw_m {s1 t1 : LwS} {Wn : List va_W} {wc w1 : va_W} {v : Value} (hC : LC l p s m meth cq G cy kS vS A b L xs) (hM : WC l y wy rm G (PB G cy wc) (.ref a.am :: As) wc w1 (some v)) (cw : CallW room_1 s #[.ref b] RL RX8 index y bytes maxL ret wy rm 0 0 n) (js : List Nat) (h : js.map (fun j => (LCh cy a s1 t1)[j]?) = (ones wc).map some) (hnd : va_nd js = true) (hf : SameL (ones w1) (ones wc)) (hw : csets (LCh cy a s1 t1) js (ones w1) = Wn)
    (hP : va_P G vwCl (fl (LCh cy a s1 t1)) H) (hD : va_D A (fl (LCh cy a s1 t1))) (hS : va_S A s.heap H locs) (hn : As.length = n) (hsize : ls.size = 9) (hstack : st0 = As.reverse ++ .ref a.am :: rest) (hW : (rest.map fun v => v.category).sum ≤ 8) (hr : cells ≤ room_1.cells ∧ slots ≤ room_1.slots) (hdg : decode code pc = .ok (.invokevirtual index, 3))
    (kk : ∀ (H1 : Heap) (locs1 : List Loc), va_P G vwCl (fl Wn) H1 → va_D A (fl Wn) → va_S A s.heap H1 locs1 → W p l e room_1 s m #[.ref b] below meth cq H1 locs1 cells slots Q (F0 m (pc + 3) ls (v :: rest))) : W p l e room_1 s m #[.ref b] below meth cq H locs cells slots Q (F0 m pc ls st0) :=
  c_wcV hC.S9 hM cw PB.blind (lw_am hC hP) (PB.at hC.hK (ones_at h hP)) hP hD hS (poss (LCh cy a s1 t1) js) ((poss_F h).trans (by rw [ones_fl])) (poss_nd hnd) (by have h9 := hf.fst; rwa [ones_fl, ones_fl] at h9) (by have h9 := (wsets_F h hnd hf.len).trans (congrArg fl hw); rwa [ones_fl] at h9) hn hsize hstack hW hr hdg kk
theorem lw_we {T9 : Type} {s1 t1 : LwS} {Wn : T9 → List va_W} {wc : va_W} {w1 : T9 → va_W} {r9 : Int32} (hC : LC l p s m meth cq G cy kS vS A b L xs) (hM : WE l y wy rm G (PS G cy kS vS wc) (.ref a.am :: As) wc w1 (some (.int r9))) (cw : CallW room_1 s #[.ref b] RL RX8 index y bytes maxL ret wy rm 0 0 n) (js : List Nat) (h : js.map (fun j => (LCh cy a s1 t1)[j]?) = (ones wc).map some) (hnd : va_nd js = true) (hf : ∀ u, SameL (ones (w1 u)) (ones wc)) (hw : ∀ u, csets (LCh cy a s1 t1) js (ones (w1 u)) = Wn u)
    (hP : va_P G vwCl (fl (LCh cy a s1 t1)) H) (hD : va_D A (fl (LCh cy a s1 t1))) (hS : va_S A s.heap H locs) (hn : As.length = n) (hsize : ls.size = 9) (hstack : st0 = As.reverse ++ .ref a.am :: rest) (hW : (rest.map fun v => v.category).sum ≤ 8) (hr : cells ≤ room_1.cells ∧ slots ≤ room_1.slots) (hdg : decode code pc = .ok (.invokevirtual index, 3))
    (kk : ∀ (u : T9) (H1 : Heap) (locs1 : List Loc), va_P G vwCl (fl (Wn u)) H1 → va_D A (fl (Wn u)) → va_S A s.heap H1 locs1 → W p l e room_1 s m #[.ref b] below meth cq H1 locs1 cells slots Q (F0 m (pc + 3) ls (.int r9 :: rest))) : W p l e room_1 s m #[.ref b] below meth cq H locs cells slots Q (F0 m pc ls st0) :=
  c_weVi (ws' := fun u => fl (Wn u)) hC.S9 hM cw PS.blind (lw_am hC hP) (PS.at hC.hSK hS (by have h9 := wA_subF hD js h; rwa [ones_fl] at h9) hC.hK (ones_at h hP)) hP hD hS (poss (LCh cy a s1 t1) js) ((poss_F h).trans (by rw [ones_fl])) (poss_nd hnd) (fun u => by have h9 := (hf u).fst; rwa [ones_fl, ones_fl] at h9) (fun u => by have h9 := (wsets_F h hnd (hf u).len).trans (congrArg fl (hw u)); rwa [ones_fl] at h9) hn hsize hstack hW hr hdg kk
theorem lw_thrown {s1 t1 : LwS} {k : Int32} (hC : LC l p s m meth cq G cy kS vS A b L xs) (hP : va_P G vwCl (fl (LCh cy a s1 t1)) H) (hk : t1.th = k) (hsize : ls.size = 9) (hW : (rest.map fun v => v.category).sum ≤ 8) (hr : cells ≤ room_1.cells ∧ slots ≤ room_1.slots) (hdg : decode code pc = .ok (.invokevirtual 165, 3))
    (kk : W p l e room_1 s m #[.ref b] below meth cq H locs cells slots Q (F0 m (pc + 3) ls (.int k :: rest))) : W p l e room_1 s m #[.ref b] below meth cq H locs cells slots Q (F0 m pc ls (.ref a.am :: rest)) := by
  subst hk
  exact c_roVi hC.S9 (c_X8_thrown l G cy a.am a.aS a.aBf a.aAs a.aSv a.aPa a.aOu a.aTx a.aCo t1.ct t1.nb t1.LN t1.x0.1 t1.CM t1.hs t1.th (bI t1.x0.2) t1.ep t1.fc) (cwV 0 hC.S9.2.2.2.2 gL_law_X8_thrown rfl rfl rfl (by decide +kernel) ⟨Nat.le_of_ble_eq_true rfl, Nat.le_of_ble_eq_true rfl⟩) PB.blind (lw_am hC hP) (PB.at hC.hK (ones_at (Wc := LCh cy a s1 t1) (js := [15]) rfl hP)) rfl hsize rfl hW hr hdg kk
theorem lw_ldL {s1 t1 : LwS} {x : Int64} (hC : LC l p s m meth cq G cy kS vS A b L xs) (hP : va_P G vwCl (fl (LCh cy a s1 t1)) H) (hk : s1.fo = fun _ => x) (hdg : decode code pc = .ok (.laload, 1))
    (kk : W p l e room_1 s m #[.ref b] below meth cq H locs cells slots Q (F0 m (pc + 1) ls (.long x :: rest))) : W p l e room_1 s m #[.ref b] below meth cq H locs cells slots Q (F0 m pc ls (.int 0 :: .ref a.oA :: rest)) :=
  m_lald hC.S9.1 hC.S9.2.1 hC.hK hP (offs (LCh cy a s1 t1) 24 + 0) ((fl_at (Wc := LCh cy a s1 t1) (j := 24) (i := 0) (c := [(a.oA, .inl (cy 5, 1, .inr (.inl s1.fo)))]) rfl (Nat.le_of_ble_eq_true rfl)).trans (by rw [hk]; rfl)) hdg kk
theorem lw_ldD {s1 t1 : LwS} {x : UInt64} (hC : LC l p s m meth cq G cy kS vS A b L xs) (hP : va_P G vwCl (fl (LCh cy a s1 t1)) H) (hk : s1.fd = fun _ => x) (hdg : decode code pc = .ok (.daload, 1))
    (kk : W p l e room_1 s m #[.ref b] below meth cq H locs cells slots Q (F0 m (pc + 1) ls (.double x :: rest))) : W p l e room_1 s m #[.ref b] below meth cq H locs cells slots Q (F0 m pc ls (.int 0 :: .ref a.oD :: rest)) :=
  m_dald hC.S9.1 hC.S9.2.1 hC.hK hP (offs (LCh cy a s1 t1) 25 + 0) ((fl_at (Wc := LCh cy a s1 t1) (j := 25) (i := 0) (c := [(a.oD, .inl (cy 6, 1, .inr (.inr (.inr (.inl s1.fd)))))]) rfl (Nat.le_of_ble_eq_true rfl)).trans (by rw [hk]; rfl)) hdg kk
end LWR
