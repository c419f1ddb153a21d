/-! StringBuilder: the digits' tables, the calls of a superclass's methods -/
def oneV : Nat → Value := fun j => .int (nI (48 + j % 10))
def tenV : Nat → Value := fun j => .int (nI (48 + j / 10))
def DZ (A : Nat → Prop) (U : State) : Prop := (∃ t, va_Z "java/lang/Integer" "DigitOnes" "[B" (.ref t) A U U.heap ∧ va_T .byte t 100 oneV A U U.heap) ∧ ∃ t, va_Z "java/lang/Integer" "DigitTens" "[B" (.ref t) A U U.heap ∧ va_T .byte t 100 tenV A U U.heap
theorem DZ.blind {A : Nat → Prop} {U : State} {g : JFrame} {mk : MethodId} {a : Array Value} (h : DZ A U) : DZ A (U.calling g mk a) := by
  obtain ⟨⟨t, z, u⟩, t2, z2, u2⟩ := h
  exact ⟨⟨t, va_Z.moved (u := U) (U := U.calling g mk a) (Vm.Alike.refl U.vm) z, va_T.moved (u := U) (U := U.calling g mk a) (Vm.Alike.refl U.vm) u⟩, t2, va_Z.moved (u := U) (U := U.calling g mk a) (Vm.Alike.refl U.vm) z2, va_T.moved (u := U) (U := U.calling g mk a) (Vm.Alike.refl U.vm) u2⟩
theorem DZ.at {A B : Nat → Prop} {s : State} {H : Heap} {locs : List Loc} (h : DZ A s) (hS : va_S A s.heap H locs) (hB : ∀ q, B q → A q) : ∀ U : State, U.heap = H → s.WarmedH U.vm → DZ B U := by
  intro U hU hW
  obtain ⟨⟨t, z, u⟩, t2, z2, u2⟩ := h
  refine ⟨⟨t, ?_, ?_⟩, t2, ?_, ?_⟩
  · rw [hU]; exact ((z.kept hS.2.1).narrow hB).moved hW.alike
  · rw [hU]; exact ((u.kept hS.2.1).narrow hB).moved hW.alike
  · rw [hU]; exact ((z2.kept hS.2.1).narrow hB).moved hW.alike
  · rw [hU]; exact ((u2.kept hS.2.1).narrow hB).moved hW.alike
/-- a method that writes text, over its world -/
def PD (G : va_G) (cy : Nat → ClassId) (kS vS : Nat → Nat) (w : va_W) : State → Prop := fun U => PS G cy kS vS w U ∧ DZ (wA w) U
theorem PD.blind {G : va_G} {cy : Nat → ClassId} {kS vS : Nat → Nat} {w : va_W} : ∀ (U : State) (g : JFrame) (mk : MethodId) (a : Array Value), PD G cy kS vS w U → PD G cy kS vS w (U.calling g mk a) := fun U g mk a h => ⟨PS.blind U g mk a h.1, h.2.blind⟩
theorem PD.at {G : va_G} {cy : Nat → ClassId} {kS vS : Nat → Nat} {A : Nat → Prop} {w : va_W} {s : State} {H : Heap} {locs : List Loc} (hDZ : DZ A s) (hSK : SK kS vS A s) (hS : va_S A s.heap H locs) (hB : ∀ q, wA w q → A q) (hK : KK G cy s) (hP : va_P G vwCl w H) : ∀ U : State, U.heap = H → s.WarmedH U.vm → PD G cy kS vS w U := fun U hU hW => ⟨PS.at hSK hS hB hK hP U hU hW, hDZ.at hS hB U hU hW⟩
theorem wA_subR {w sub : va_W} (is : List Nat) (h : is.map (fun i => w[i]?) = sub.map some) : ∀ q, wA sub q → wA w q := by
  rintro q ⟨k, e, hk⟩
  have h1 : (is.map (fun i => w[i]?))[k]? = some (some (q, e)) := by rw [h, List.getElem?_map, hk]; rfl
  rw [List.getElem?_map] at h1
  cases hi : is[k]? with
  | none => rw [hi] at h1; cases h1
  | some i => rw [hi] at h1; exact ⟨i, e, Option.some.inj h1⟩
section SBR
variable {p : Program} {l : Launch} {e : Env} {R : Room} {s : State} {m : MethodId} {args : Array Value} {below : List Frame} {meth : Method} {c : Code} {H H0 : Heap} {locs : List Loc} {cells slots : Nat} {Q : State → Prop}
variable {cc : ByteArray} {pc : Nat} {ls : Array Slot} {rest st0 : List Value} {G : va_G} {cy : Nat → ClassId} {A : Nat → Prop} {ws : va_W} {a : Nat}
theorem m_bald (hx : p.tables.exec = Jvm.exec) (hb : c.code = cc) (hK : KK G cy s) (hP : va_P G vwCl ws H) (q0 : Nat) {n k : Nat} {f : Nat → Int32} (ha : ws[q0]? = some (a, .inl (cy 0, n, .inl f))) {i : Int32} (hi : i = nI k) (hk : k < n) (hn : n < 2147483648) (hdg : decode cc pc = .ok (.baload, 1))
    (kk : W p l e R s m args below meth c H locs cells slots Q (F0 m (pc + 1) ls (.int (f k) :: rest))) : W p l e R s m args below meth c H locs cells slots Q (F0 m pc ls (.int i :: .ref a :: rest)) := by
  subst hi
  exact va_bald hx hb hK.1 hP q0 0 ha rfl (vp_in_nI hk hn) hdg (by rw [nI_clamp (Nat.lt_trans hk hn)]; exact kk)
theorem m_bast (hx : p.tables.exec = Jvm.exec) (hb : c.code = cc) (hK : KK G cy s) (hP : va_P G vwCl ws H) (hD : va_D A ws) (hS : va_S A H0 H locs) (q0 : Nat) {n k : Nat} {x : Int32} {f : Nat → Int32} (ha : ws[q0]? = some (a, .inl (cy 0, n, .inl f))) {i : Int32} (hi : i = nI k) (hk : k < n) (hn : n < 2147483648) (hz : vp_nar .byte x = x) (hdg : decode cc pc = .ok (.bastore, 1))
    (kk : ∀ (H1 : Heap) (locs1 : List Loc), va_P G vwCl (ws.set q0 (a, .inl (cy 0, n, .inl (upd f k x)))) H1 → va_D A (ws.set q0 (a, .inl (cy 0, n, .inl (upd f k x)))) → va_S A H0 H1 locs1 → W p l e R s m args below meth c H1 locs1 cells slots Q (F0 m (pc + 1) ls rest)) : W p l e R s m args below meth c H locs cells slots Q (F0 m pc ls (.int x :: .int i :: .ref a :: rest)) := by
  subst hi
  exact va_bast hx hb hK.1 hP hD hS q0 0 ha rfl (vp_in_nI hk hn) hdg (by rw [nI_clamp (Nat.lt_trans hk hn), hz]; exact kk)
theorem wc_aret {w w' : va_W} {rt : FieldType} (hx : p.tables.exec = Jvm.exec) (hb : c.code = cc) (hr : meth.sig.returnType = some rt) (hlocks : meth.locks = false) (hrt : (∃ n, rt = .object n) ∨ ∃ t, rt = .array t) (hP : va_P G vwCl w' H) (hS : va_S (wA w) s.heap H locs) {v : Nat} (hdg : decode cc pc = .ok (.areturn, 1)) : W p l e R s m args below meth c H locs 0 0 (wcZ below args s G w w' (some (.ref v))) (F0 m pc ls [.ref v]) :=
  W.aret hx hb hr hrt (Or.inr ⟨_, rfl⟩) (fun t ht _ => ⟨rfl, by rw [ht]; exact hP, hS.F ht⟩) hS.2.2 hdg hlocks
variable {x y : MethodName} {bytes : ByteArray} {maxL nL n index : Nat} {ret : Option FieldType} {wy : List Cond} {rm : Room} {P : State → Prop} {Ts : List Cond} {own C host owner : String} {cC : ClassId} {b : Addr} {As : List Value} {r : Option Value}
theorem c_roU (S : CallFix p m c cc nL s args Ts own) (hM : RO l y wy rm P (.ref b :: As) r) (cw : va_CU R s args own C owner index x y bytes maxL ret wy rm 0 0 n) (hbl : ∀ (U : State) (g : JFrame) (mk : MethodId) (a : Array Value), P U → P (U.calling g mk a)) (hrc : ∃ cellB : Cell, H[b]? = some cellB ∧ cellB.vm.isStatics = false ∧ s.vm.findClass C = some cellB.cls) (hat : ∀ U : State, U.heap = H → s.WarmedH U.vm → P U)
    (hn : As.length = n) (hsize : ls.size = nL) (hstack : st0 = As.reverse ++ .ref b :: rest) (hW : (rest.map fun v => v.category).sum ≤ 8) (hf : cells ≤ R.cells ∧ slots ≤ R.slots) (hdg : decode cc pc = .ok (.invokevirtual index, 3))
    (kk : W p l e R s m args below meth c H locs cells slots Q (F0 m (pc + 3) ls (r.toList ++ rest))) : W p l e R s m args below meth c H locs cells slots Q (F0 m pc ls st0) :=
  m_ro (va_runU S hM cw ⟨fun a U g mk q => ⟨q.1, hbl U g mk a q.2⟩, hrc, fun U hU hW => ⟨rfl, hat U hU hW⟩⟩ rfl hn hsize hstack (lv_room hW) hdg hf) kk
theorem c_wcU {wc w1 ws' : va_W} (S : CallFix p m c cc nL s args Ts own) (hM : WC l y wy rm G P (.ref b :: As) wc w1 r) (cw : va_CU R s args own C owner index x y bytes maxL ret wy rm 0 0 n) (hbl : ∀ (U : State) (g : JFrame) (mk : MethodId) (a : Array Value), P U → P (U.calling g mk a)) (hrc : ∃ cellB : Cell, H[b]? = some cellB ∧ cellB.vm.isStatics = false ∧ s.vm.findClass C = some cellB.cls) (hat : ∀ U : State, U.heap = H → s.WarmedH U.vm → P U)
    (hP : va_P G vwCl ws H) (hD : va_D A ws) (hS : va_S A H0 H locs) (is : List Nat) (hC : is.map (fun i => ws[i]?) = wc.map some) (hnd : va_nd is = true) (h1 : w1.map Prod.fst = wc.map Prod.fst) (hw : wsets ws is w1 = ws')
    (hn : As.length = n) (hsize : ls.size = nL) (hstack : st0 = As.reverse ++ .ref b :: rest) (hW : (rest.map fun v => v.category).sum ≤ 8) (hf : cells ≤ R.cells ∧ slots ≤ R.slots) (hdg : decode cc pc = .ok (.invokevirtual index, 3))
    (kk : ∀ (H1 : Heap) (locs1 : List Loc), va_P G vwCl ws' H1 → va_D A ws' → va_S A H0 H1 locs1 → W p l e R s m args below meth c H1 locs1 cells slots Q (F0 m (pc + 3) ls (r.toList ++ rest))) : W p l e R s m args below meth c H locs cells slots Q (F0 m pc ls st0) :=
  m_wc (va_runU S hM cw ⟨fun a U g mk q => ⟨q.1, hbl U g mk a q.2.1, q.2.2⟩, hrc, fun U hU hW => ⟨rfl, hat U hU hW, m_Dpart hD is hnd hC⟩⟩ rfl hn hsize hstack (lv_room hW) hdg hf) hP hD hS is hC h1 hw kk
theorem c_roSU (hca : ClassAt s C cC) (S : CallFix p m c cc nL s args Ts own) (hM : RO l y wy rm P (.ref b :: As) r) (cw : va_CS R s args own index y bytes maxL ret wy rm 0 0 n) (hbl : ∀ (U : State) (g : JFrame) (mk : MethodId) (a : Array Value), P U → P (U.calling g mk a)) (hrc : ∃ cellB : Cell, H[b]? = some cellB ∧ cellB.vm.isStatics = false ∧ s.vm.findClass C = some cellB.cls) (hat : ∀ U : State, U.heap = H → s.WarmedH U.vm → P U)
    (hn : As.length = n) (hsize : ls.size = nL) (hstack : st0 = As.reverse ++ .ref b :: rest) (hW : (rest.map fun v => v.category).sum ≤ 8) (hf : cells ≤ R.cells ∧ slots ≤ R.slots) (hdg : decode cc pc = .ok (.invokespecial index, 3))
    (kk : W p l e R s m args below meth c H locs cells slots Q (F0 m (pc + 3) ls (r.toList ++ rest))) : W p l e R s m args below meth c H locs cells slots Q (F0 m pc ls st0) :=
  m_ro (va_runSU hca S hM cw ⟨fun a U g mk q => ⟨q.1, hbl U g mk a q.2⟩, hrc, fun U hU hW => ⟨rfl, hat U hU hW⟩⟩ rfl hn hsize hstack (lv_room hW) hdg hf) kk
theorem c_wcSU {wc w1 ws' : va_W} (hca : ClassAt s C cC) (S : CallFix p m c cc nL s args Ts own) (hM : WC l y wy rm G P (.ref b :: As) wc w1 r) (cw : va_CS R s args own index y bytes maxL ret wy rm 0 0 n) (hbl : ∀ (U : State) (g : JFrame) (mk : MethodId) (a : Array Value), P U → P (U.calling g mk a)) (hrc : ∃ cellB : Cell, H[b]? = some cellB ∧ cellB.vm.isStatics = false ∧ s.vm.findClass C = some cellB.cls) (hat : ∀ U : State, U.heap = H → s.WarmedH U.vm → P U)
    (hP : va_P G vwCl ws H) (hD : va_D A ws) (hS : va_S A H0 H locs) (is : List Nat) (hC : is.map (fun i => ws[i]?) = wc.map some) (hnd : va_nd is = true) (h1 : w1.map Prod.fst = wc.map Prod.fst) (hw : wsets ws is w1 = ws')
    (hn : As.length = n) (hsize : ls.size = nL) (hstack : st0 = As.reverse ++ .ref b :: rest) (hW : (rest.map fun v => v.category).sum ≤ 8) (hf : cells ≤ R.cells ∧ slots ≤ R.slots) (hdg : decode cc pc = .ok (.invokespecial index, 3))
    (kk : ∀ (H1 : Heap) (locs1 : List Loc), va_P G vwCl ws' H1 → va_D A ws' → va_S A H0 H1 locs1 → W p l e R s m args below meth c H1 locs1 cells slots Q (F0 m (pc + 3) ls (r.toList ++ rest))) : W p l e R s m args below meth c H locs cells slots Q (F0 m pc ls st0) :=
  m_wc (va_runSU hca S hM cw ⟨fun a U g mk q => ⟨q.1, hbl U g mk a q.2.1, q.2.2⟩, hrc, fun U hU hW => ⟨rfl, hat U hU hW, m_Dpart hD is hnd hC⟩⟩ rfl hn hsize hstack (lv_room hW) hdg hf) hP hD hS is hC h1 hw kk
theorem c_roUi {r9 : Int32} (S : CallFix p m c cc nL s args Ts own) (hM : RO l y wy rm P (.ref b :: As) (some (.int r9))) (cw : va_CU R s args own C owner index x y bytes maxL ret wy rm 0 0 n) (hbl : ∀ (U : State) (g : JFrame) (mk : MethodId) (a : Array Value), P U → P (U.calling g mk a)) (hrc : ∃ cellB : Cell, H[b]? = some cellB ∧ cellB.vm.isStatics = false ∧ s.vm.findClass C = some cellB.cls) (hat : ∀ U : State, U.heap = H → s.WarmedH U.vm → P U)
    (hn : As.length = n) (hsize : ls.size = nL) (hstack : st0 = As.reverse ++ .ref b :: rest) (hW : (rest.map fun v => v.category).sum ≤ 8) (hf : cells ≤ R.cells ∧ slots ≤ R.slots) (hdg : decode cc pc = .ok (.invokevirtual index, 3))
    (kk : W p l e R s m args below meth c H locs cells slots Q (F0 m (pc + 3) ls (.int r9 :: rest))) : W p l e R s m args below meth c H locs cells slots Q (F0 m pc ls st0) := c_roU S hM cw hbl hrc hat hn hsize hstack hW hf hdg kk
theorem c_roUv (S : CallFix p m c cc nL s args Ts own) (hM : RO l y wy rm P (.ref b :: As) none) (cw : va_CU R s args own C owner index x y bytes maxL ret wy rm 0 0 n) (hbl : ∀ (U : State) (g : JFrame) (mk : MethodId) (a : Array Value), P U → P (U.calling g mk a)) (hrc : ∃ cellB : Cell, H[b]? = some cellB ∧ cellB.vm.isStatics = false ∧ s.vm.findClass C = some cellB.cls) (hat : ∀ U : State, U.heap = H → s.WarmedH U.vm → P U)
    (hn : As.length = n) (hsize : ls.size = nL) (hstack : st0 = As.reverse ++ .ref b :: rest) (hW : (rest.map fun v => v.category).sum ≤ 8) (hf : cells ≤ R.cells ∧ slots ≤ R.slots) (hdg : decode cc pc = .ok (.invokevirtual index, 3))
    (kk : W p l e R s m args below meth c H locs cells slots Q (F0 m (pc + 3) ls (rest))) : W p l e R s m args below meth c H locs cells slots Q (F0 m pc ls st0) := c_roU S hM cw hbl hrc hat hn hsize hstack hW hf hdg kk
theorem c_roSUi {r9 : Int32} (hca : ClassAt s C cC) (S : CallFix p m c cc nL s args Ts own) (hM : RO l y wy rm P (.ref b :: As) (some (.int r9))) (cw : va_CS R s args own index y bytes maxL ret wy rm 0 0 n) (hbl : ∀ (U : State) (g : JFrame) (mk : MethodId) (a : Array Value), P U → P (U.calling g mk a)) (hrc : ∃ cellB : Cell, H[b]? = some cellB ∧ cellB.vm.isStatics = false ∧ s.vm.findClass C = some cellB.cls) (hat : ∀ U : State, U.heap = H → s.WarmedH U.vm → P U)
    (hn : As.length = n) (hsize : ls.size = nL) (hstack : st0 = As.reverse ++ .ref b :: rest) (hW : (rest.map fun v => v.category).sum ≤ 8) (hf : cells ≤ R.cells ∧ slots ≤ R.slots) (hdg : decode cc pc = .ok (.invokespecial index, 3))
    (kk : W p l e R s m args below meth c H locs cells slots Q (F0 m (pc + 3) ls (.int r9 :: rest))) : W p l e R s m args below meth c H locs cells slots Q (F0 m pc ls st0) := c_roSU hca S hM cw hbl hrc hat hn hsize hstack hW hf hdg kk
theorem c_roSUv (hca : ClassAt s C cC) (S : CallFix p m c cc nL s args Ts own) (hM : RO l y wy rm P (.ref b :: As) none) (cw : va_CS R s args own index y bytes maxL ret wy rm 0 0 n) (hbl : ∀ (U : State) (g : JFrame) (mk : MethodId) (a : Array Value), P U → P (U.calling g mk a)) (hrc : ∃ cellB : Cell, H[b]? = some cellB ∧ cellB.vm.isStatics = false ∧ s.vm.findClass C = some cellB.cls) (hat : ∀ U : State, U.heap = H → s.WarmedH U.vm → P U)
    (hn : As.length = n) (hsize : ls.size = nL) (hstack : st0 = As.reverse ++ .ref b :: rest) (hW : (rest.map fun v => v.category).sum ≤ 8) (hf : cells ≤ R.cells ∧ slots ≤ R.slots) (hdg : decode cc pc = .ok (.invokespecial index, 3))
    (kk : W p l e R s m args below meth c H locs cells slots Q (F0 m (pc + 3) ls (rest))) : W p l e R s m args below meth c H locs cells slots Q (F0 m pc ls st0) := c_roSU hca S hM cw hbl hrc hat hn hsize hstack hW hf hdg kk
theorem c_wcUv {wc w1 ws' : va_W} (S : CallFix p m c cc nL s args Ts own) (hM : WC l y wy rm G P (.ref b :: As) wc w1 none) (cw : va_CU R s args own C owner index x y bytes maxL ret wy rm 0 0 n) (hbl : ∀ (U : State) (g : JFrame) (mk : MethodId) (a : Array Value), P U → P (U.calling g mk a)) (hrc : ∃ cellB : Cell, H[b]? = some cellB ∧ cellB.vm.isStatics = false ∧ s.vm.findClass C = some cellB.cls) (hat : ∀ U : State, U.heap = H → s.WarmedH U.vm → P U)
    (hP : va_P G vwCl ws H) (hD : va_D A ws) (hS : va_S A H0 H locs) (is : List Nat) (hC : is.map (fun i => ws[i]?) = wc.map some) (hnd : va_nd is = true) (h1 : w1.map Prod.fst = wc.map Prod.fst) (hw : wsets ws is w1 = ws')
    (hn : As.length = n) (hsize : ls.size = nL) (hstack : st0 = As.reverse ++ .ref b :: rest) (hW : (rest.map fun v => v.category).sum ≤ 8) (hf : cells ≤ R.cells ∧ slots ≤ R.slots) (hdg : decode cc pc = .ok (.invokevirtual index, 3))
    (kk : ∀ (H1 : Heap) (locs1 : List Loc), va_P G vwCl ws' H1 → va_D A ws' → va_S A H0 H1 locs1 → W p l e R s m args below meth c H1 locs1 cells slots Q (F0 m (pc + 3) ls (rest))) : W p l e R s m args below meth c H locs cells slots Q (F0 m pc ls st0) := c_wcU S hM cw hbl hrc hat hP hD hS is hC hnd h1 hw hn hsize hstack hW hf hdg kk
theorem c_wcUr {r9 : Nat} {wc w1 ws' : va_W} (S : CallFix p m c cc nL s args Ts own) (hM : WC l y wy rm G P (.ref b :: As) wc w1 (some (.ref r9))) (cw : va_CU R s args own C owner index x y bytes maxL ret wy rm 0 0 n) (hbl : ∀ (U : State) (g : JFrame) (mk : MethodId) (a : Array Value), P U → P (U.calling g mk a)) (hrc : ∃ cellB : Cell, H[b]? = some cellB ∧ cellB.vm.isStatics = false ∧ s.vm.findClass C = some cellB.cls) (hat : ∀ U : State, U.heap = H → s.WarmedH U.vm → P U)
    (hP : va_P G vwCl ws H) (hD : va_D A ws) (hS : va_S A H0 H locs) (is : List Nat) (hC : is.map (fun i => ws[i]?) = wc.map some) (hnd : va_nd is = true) (h1 : w1.map Prod.fst = wc.map Prod.fst) (hw : wsets ws is w1 = ws')
    (hn : As.length = n) (hsize : ls.size = nL) (hstack : st0 = As.reverse ++ .ref b :: rest) (hW : (rest.map fun v => v.category).sum ≤ 8) (hf : cells ≤ R.cells ∧ slots ≤ R.slots) (hdg : decode cc pc = .ok (.invokevirtual index, 3))
    (kk : ∀ (H1 : Heap) (locs1 : List Loc), va_P G vwCl ws' H1 → va_D A ws' → va_S A H0 H1 locs1 → W p l e R s m args below meth c H1 locs1 cells slots Q (F0 m (pc + 3) ls (.ref r9 :: rest))) : W p l e R s m args below meth c H locs cells slots Q (F0 m pc ls st0) := c_wcU S hM cw hbl hrc hat hP hD hS is hC hnd h1 hw hn hsize hstack hW hf hdg kk
theorem c_wcSUv {wc w1 ws' : va_W} (hca : ClassAt s C cC) (S : CallFix p m c cc nL s args Ts own) (hM : WC l y wy rm G P (.ref b :: As) wc w1 none) (cw : va_CS R s args own index y bytes maxL ret wy rm 0 0 n) (hbl : ∀ (U : State) (g : JFrame) (mk : MethodId) (a : Array Value), P U → P (U.calling g mk a)) (hrc : ∃ cellB : Cell, H[b]? = some cellB ∧ cellB.vm.isStatics = false ∧ s.vm.findClass C = some cellB.cls) (hat : ∀ U : State, U.heap = H → s.WarmedH U.vm → P U)
    (hP : va_P G vwCl ws H) (hD : va_D A ws) (hS : va_S A H0 H locs) (is : List Nat) (hC : is.map (fun i => ws[i]?) = wc.map some) (hnd : va_nd is = true) (h1 : w1.map Prod.fst = wc.map Prod.fst) (hw : wsets ws is w1 = ws')
    (hn : As.length = n) (hsize : ls.size = nL) (hstack : st0 = As.reverse ++ .ref b :: rest) (hW : (rest.map fun v => v.category).sum ≤ 8) (hf : cells ≤ R.cells ∧ slots ≤ R.slots) (hdg : decode cc pc = .ok (.invokespecial index, 3))
    (kk : ∀ (H1 : Heap) (locs1 : List Loc), va_P G vwCl ws' H1 → va_D A ws' → va_S A H0 H1 locs1 → W p l e R s m args below meth c H1 locs1 cells slots Q (F0 m (pc + 3) ls (rest))) : W p l e R s m args below meth c H locs cells slots Q (F0 m pc ls st0) := c_wcSU hca S hM cw hbl hrc hat hP hD hS is hC hnd h1 hw hn hsize hstack hW hf hdg kk
theorem c_wcSUr {r9 : Nat} {wc w1 ws' : va_W} (hca : ClassAt s C cC) (S : CallFix p m c cc nL s args Ts own) (hM : WC l y wy rm G P (.ref b :: As) wc w1 (some (.ref r9))) (cw : va_CS R s args own index y bytes maxL ret wy rm 0 0 n) (hbl : ∀ (U : State) (g : JFrame) (mk : MethodId) (a : Array Value), P U → P (U.calling g mk a)) (hrc : ∃ cellB : Cell, H[b]? = some cellB ∧ cellB.vm.isStatics = false ∧ s.vm.findClass C = some cellB.cls) (hat : ∀ U : State, U.heap = H → s.WarmedH U.vm → P U)
    (hP : va_P G vwCl ws H) (hD : va_D A ws) (hS : va_S A H0 H locs) (is : List Nat) (hC : is.map (fun i => ws[i]?) = wc.map some) (hnd : va_nd is = true) (h1 : w1.map Prod.fst = wc.map Prod.fst) (hw : wsets ws is w1 = ws')
    (hn : As.length = n) (hsize : ls.size = nL) (hstack : st0 = As.reverse ++ .ref b :: rest) (hW : (rest.map fun v => v.category).sum ≤ 8) (hf : cells ≤ R.cells ∧ slots ≤ R.slots) (hdg : decode cc pc = .ok (.invokespecial index, 3))
    (kk : ∀ (H1 : Heap) (locs1 : List Loc), va_P G vwCl ws' H1 → va_D A ws' → va_S A H0 H1 locs1 → W p l e R s m args below meth c H1 locs1 cells slots Q (F0 m (pc + 3) ls (.ref r9 :: rest))) : W p l e R s m args below meth c H locs cells slots Q (F0 m pc ls st0) := c_wcSU hca S hM cw hbl hrc hat hP hD hS is hC hnd h1 hw hn hsize hstack hW hf hdg kk
theorem c_wcVr {r9 : Nat} {wc w1 ws' : va_W} (S : CallFix p m c cc nL s args Ts own) (hM : WC l y wy rm G P (.ref b :: As) wc w1 (some (.ref r9))) (cw : CallW R s args own C index y bytes maxL ret wy rm 0 0 n) (hbl : ∀ (U : State) (g : JFrame) (mk : MethodId) (a : Array Value), P U → P (U.calling g mk a)) (hrc : ∃ cellB : Cell, H[b]? = some cellB ∧ cellB.vm.isStatics = false ∧ s.vm.findClass C = some cellB.cls) (hat : ∀ U : State, U.heap = H → s.WarmedH U.vm → P U)
    (hP : va_P G vwCl ws H) (hD : va_D A ws) (hS : va_S A H0 H locs) (is : List Nat) (hC : is.map (fun i => ws[i]?) = wc.map some) (hnd : va_nd is = true) (h1 : w1.map Prod.fst = wc.map Prod.fst) (hw : wsets ws is w1 = ws')
    (hn : As.length = n) (hsize : ls.size = nL) (hstack : st0 = As.reverse ++ .ref b :: rest) (hW : (rest.map fun v => v.category).sum ≤ 8) (hf : cells ≤ R.cells ∧ slots ≤ R.slots) (hdg : decode cc pc = .ok (.invokevirtual index, 3))
    (kk : ∀ (H1 : Heap) (locs1 : List Loc), va_P G vwCl ws' H1 → va_D A ws' → va_S A H0 H1 locs1 → W p l e R s m args below meth c H1 locs1 cells slots Q (F0 m (pc + 3) ls (.ref r9 :: rest))) : W p l e R s m args below meth c H locs cells slots Q (F0 m pc ls st0) := c_wcV S hM cw hbl hrc hat hP hD hS is hC hnd h1 hw hn hsize hstack hW hf hdg kk
theorem c_wcSi {r9 : Int32} {wc w1 ws' : va_W} (S : CallFix p m c cc nL s args Ts own) (hM : WC l y wy rm G P As wc w1 (some (.int r9))) (cw : CallB R s args own index y bytes maxL ret wy rm 0 0 n ∧ (Cond.static y).before args s = true) (hbl : ∀ (U : State) (g : JFrame) (mk : MethodId) (a : Array Value), P U → P (U.calling g mk a)) (hat : ∀ U : State, U.heap = H → s.WarmedH U.vm → P U)
    (hP : va_P G vwCl ws H) (hD : va_D A ws) (hS : va_S A H0 H locs) (is : List Nat) (hC : is.map (fun i => ws[i]?) = wc.map some) (hnd : va_nd is = true) (h1 : w1.map Prod.fst = wc.map Prod.fst) (hw : wsets ws is w1 = ws')
    (hn : As.length = n) (hsize : ls.size = nL) (hstack : st0 = As.reverse ++ rest) (hW : (rest.map fun v => v.category).sum ≤ 8) (hf : cells ≤ R.cells ∧ slots ≤ R.slots) (hdg : decode cc pc = .ok (.invokestatic index, 3))
    (kk : ∀ (H1 : Heap) (locs1 : List Loc), va_P G vwCl ws' H1 → va_D A ws' → va_S A H0 H1 locs1 → W p l e R s m args below meth c H1 locs1 cells slots Q (F0 m (pc + 3) ls (.int r9 :: rest))) : W p l e R s m args below meth c H locs cells slots Q (F0 m pc ls st0) :=
  m_wc (va_runS S hM cw ⟨fun a U g mk q => ⟨q.1, hbl U g mk a q.2.1, q.2.2⟩, fun U hU hW => ⟨rfl, hat U hU hW, m_Dpart hD is hnd hC⟩⟩ rfl hn hsize hstack (lv_room hW) hdg hf) hP hD hS is hC h1 hw kk
end SBR
theorem m_ng {k : Nat} (h : k < 1000) : (-(nI k)).toInt = -(k : Int) := by
  have e := nI_toInt (n := k) (by omega)
  rw [show -(nI k) = 0 - nI k by rw [Int32.zero_sub], ti_sub Int32.toInt_zero e (by omega) (by omega)]
  omega
theorem m_nn (k : Nat) : -(-(nI k)) = nI k := Int32.neg_neg
theorem m_gtN {k : Nat} {p : Int32} {q : Int} (h : k < 1000) (hp : p.toInt = q) (hq : q < -(k : Int)) : p < -(nI k) := by
  rw [Int32.lt_iff_toInt_lt, m_ng h, hp]
  exact hq
theorem m_leM {k : Nat} {p : Int32} {q : Int} (h : k < 1000) (hp : p.toInt = q) (hq : -(k : Int) ≤ q) : -(nI k) ≤ p := by
  rw [Int32.le_iff_toInt_le, m_ng h, hp]
  exact hq
theorem m_geM {k : Nat} {p : Int32} {q : Int} (h : k < 1000) (hp : p.toInt = q) (hq : q ≤ -(k : Int)) : p ≤ -(nI k) := by
  rw [Int32.le_iff_toInt_le, m_ng h, hp]
  exact hq
theorem m_div100 {k : Nat} (h : k < 1000) : -(nI k) / 100 = -(nI (k / 100)) := by
  rw [← Int32.toInt_inj, Int32.toInt_div_of_ne_right _ _ (by decide), m_ng h, m_ng (by omega), show (100 : Int32).toInt = 100 from by decide, Int.neg_tdiv, Int.tdiv_eq_ediv_of_nonneg (by omega)]
  omega
theorem m_rem100 {k : Nat} (h : k < 1000) : -(nI (k / 100)) * 100 - -(nI k) = nI (k % 100) := by
  have e1 := m_ng (k := k / 100) (by omega)
  have e2 := m_ng h
  have e3 : (-(nI (k / 100)) * 100).toInt = -((k / 100 : Nat) : Int) * 100 := ti_mul e1 (by decide) (by omega) (by omega)
  rw [← Int32.toInt_inj, ti_sub e3 e2 (by omega) (by omega), nI_toInt (by omega)]
  omega
theorem nar_b {d : Nat} (h : d < 10) : vp_nar .byte (nI (48 + d)) = nI (48 + d) := by
  have e : ∀ d : Nat, d < 10 → vp_nar .byte (nI (48 + d)) = nI (48 + d) := by decide
  exact e d h
theorem cap_le {q : Nat} (h : q ≤ 16) : nI q - 16 ≤ 0 := by
  rw [Int32.le_iff_toInt_le, ti_sub (nI_toInt (by omega)) (show (16 : Int32).toInt = 16 from by decide) (by omega) (by omega), Int32.toInt_zero]
  omega
set_option maxRecDepth 100000 in
set_option maxHeartbeats 1000000 in
theorem c_J5_isLatin1_aae02 (l : Launch) (G : va_G) (cy : Nat → ClassId) (kS vS : Nat → Nat) (sb vb n : Nat) (ml : Int32) (f : Nat → Int32) : RO l yJ5_isLatin1_aae02 wsJ5_isLatin1_aae02 { frames := 0, cells := 0, slots := 0, locals := 0 } (PD G cy kS vS [(sb, .inr (1, [.ref vb, .int 0, .int ml, .int (nI n)])), (vb, .inl (cy 0, 16, .inl f))]) [.ref sb] (some (.int 1)) := by
  refine RO.ofW (cc := cJ5_isLatin1_aae02) (maxL := 1) (ret := (some .boolean)) (by decide) rfl (Nat.le_of_ble_eq_true rfl) ?_
  intro p e s m below meth cq S9 hr hlocks hPB ls hl
  obtain ⟨hxq, hb, hml, hown, hts⟩ := id S9
  obtain ⟨⟨⟨hP, hK⟩, hSK⟩, hDZ⟩ := hPB
  have hS : va_S (wA [(sb, .inr (1, [.ref vb, .int 0, .int ml, .int (nI n)])), (vb, .inl (cy 0, 16, .inl f))]) s.heap s.heap [] := va_S.rf
  have hl : lv_has ls 1 [(0, .ref sb)] := hl
  have hi1 : ∀ w ∈ wsJ40, w ∈ wsJ5_isLatin1_aae02 := by decide +kernel
  have hf22 := hts (.fieldLink RJ5 22 "java/lang/AbstractStringBuilder" "coder" "B") (by decide +kernel)
  refine va_gets hxq hb hSK.2.2.1 hS hown (hts (.fieldLink RJ5 18 "java/lang/String" "COMPACT_STRINGS" "Z") (by decide +kernel)) (fun _ h9 => h9) dJ5_isLatin1_aae02_0 ?_
  refine lv_if_eq (tgt := 17) hxq hb dJ5_isLatin1_aae02_3 (by decide) (fun c_1 => ?_) (fun c_1 => ?_)
  · exact absurd c_1 (by decide)
  · refine lv_aload_n hxq hb dJ5_isLatin1_aae02_6 rfl (lv_at hl 0 rfl) ?_
    refine va_get (D := G) (ci := 1) (v := .int 0) (C := RJ4) (T := TJ4) (N := 4) hxq hb hts hi1 hown hK.1 hP 0 rfl rfl 1 (by decide) hf22 (fun _ h9 => h9) rfl dJ5_isLatin1_aae02_7 ?_
    refine lv_if_ne (tgt := 17) hxq hb dJ5_isLatin1_aae02_10 (by decide) (fun c_2 => ?_) (fun c_2 => ?_)
    · exact absurd c_2 (by decide)
    · refine lv_iconst (v := 1) hxq hb dJ5_isLatin1_aae02_13 (by decide) ?_
      refine lv_goto (tgt := 18) hxq hb dJ5_isLatin1_aae02_14 (by decide) ?_
      exact ro_zret hxq hb hr hlocks (by first | rfl | (split <;> rfl)) rfl dJ5_isLatin1_aae02_18

set_option maxRecDepth 100000 in
set_option maxHeartbeats 1000000 in
theorem c_J5_ensureCapacityInternal_d00df (l : Launch) (G : va_G) (cy : Nat → ClassId) (kS vS : Nat → Nat) (sb vb n : Nat) (ml : Int32) (f : Nat → Int32) (q : Nat) (hq9 : q ≤ 16) : RO l yJ5_ensureCapacityInternal_d00df wsJ5_ensureCapacityInternal_d00df { frames := 0, cells := 0, slots := 0, locals := 0 } (PD G cy kS vS [(sb, .inr (1, [.ref vb, .int 0, .int ml, .int (nI n)])), (vb, .inl (cy 0, 16, .inl f))]) [.ref sb, .int (nI q)] (none) := by
  refine RO.ofW (cc := cJ5_ensureCapacityInternal_d00df) (maxL := 3) (ret := none) (by decide) rfl (Nat.le_of_ble_eq_true rfl) ?_
  intro p e s m below meth cq S9 hr hlocks hPB ls hl
  obtain ⟨hxq, hb, hml, hown, hts⟩ := id S9
  obtain ⟨⟨⟨hP, hK⟩, hSK⟩, hDZ⟩ := hPB
  have hS : va_S (wA [(sb, .inr (1, [.ref vb, .int 0, .int ml, .int (nI n)])), (vb, .inl (cy 0, 16, .inl f))]) s.heap s.heap [] := va_S.rf
  have hl : lv_has ls 3 [(0, .ref sb), (1, .int (nI q))] := hl
  have hi1 : ∀ w ∈ wsJ40, w ∈ wsJ5_ensureCapacityInternal_d00df := by decide +kernel
  have hf15 := hts (.fieldLink RJ5 15 "java/lang/AbstractStringBuilder" "value" "[B") (by decide +kernel)
  have hf22 := hts (.fieldLink RJ5 22 "java/lang/AbstractStringBuilder" "coder" "B") (by decide +kernel)
  refine lv_aload_n hxq hb dJ5_ensureCapacityInternal_d00df_0 rfl (lv_at hl 0 rfl) ?_
  refine va_get (D := G) (ci := 1) (v := .ref vb) (C := RJ4) (T := TJ4) (N := 4) hxq hb hts hi1 hown hK.1 hP 0 rfl rfl 0 (by decide) hf15 (fun _ h9 => h9) rfl dJ5_ensureCapacityInternal_d00df_1 ?_
  refine va_alen hxq hb hK.1 hP 1 0 rfl rfl (v := 16) rfl dJ5_ensureCapacityInternal_d00df_4 ?_
  refine lv_aload_n hxq hb dJ5_ensureCapacityInternal_d00df_5 rfl (lv_at hl 0 rfl) ?_
  refine va_get (D := G) (ci := 1) (v := .int 0) (C := RJ4) (T := TJ4) (N := 4) hxq hb hts hi1 hown hK.1 hP 0 rfl rfl 1 (by decide) hf22 (fun _ h9 => h9) rfl dJ5_ensureCapacityInternal_d00df_6 ?_
  refine lv_ishr hxq hb dJ5_ensureCapacityInternal_d00df_9 ?_
  refine lv_t0 (show (16 : Int32) >>> (0 : Int32) = 16 from by decide) ?_
  refine lv_istore_n (lv' := [(2, .int 16), (0, .ref sb), (1, .int (nI q))]) hxq hb dJ5_ensureCapacityInternal_d00df_10 rfl hl (by decide) rfl (fun ls hl => ?_)
  refine lv_iload_n hxq hb dJ5_ensureCapacityInternal_d00df_11 rfl (lv_at hl 2 rfl) ?_
  refine lv_iload_n hxq hb dJ5_ensureCapacityInternal_d00df_12 rfl (lv_at hl 0 rfl) ?_
  refine lv_isub hxq hb dJ5_ensureCapacityInternal_d00df_13 ?_
  refine lv_if_le (tgt := 38) hxq hb dJ5_ensureCapacityInternal_d00df_14 (by decide) (fun c_1 => ?_) (fun c_1 => ?_)
  · have c_1' : ¬ 0 < ((nI q) - 16) := Int32.not_lt.mpr c_1
    exact W.vret hxq hb hr (fun t ht _ => ⟨rfl, ht⟩) (fun q h => by cases h) dJ5_ensureCapacityInternal_d00df_38 hlocks
  · exact absurd (cap_le hq9) c_1

set_option maxRecDepth 100000 in
set_option maxHeartbeats 1000000 in
theorem c_J5_length_8abf5 (l : Launch) (G : va_G) (cy : Nat → ClassId) (kS vS : Nat → Nat) (sb vb n : Nat) (ml : Int32) (f : Nat → Int32) : RO l yJ5_length_8abf5 wsJ5_length_8abf5 { frames := 0, cells := 0, slots := 0, locals := 0 } (PD G cy kS vS [(sb, .inr (1, [.ref vb, .int 0, .int ml, .int (nI n)])), (vb, .inl (cy 0, 16, .inl f))]) [.ref sb] (some (.int (nI n))) := by
  refine RO.ofW (cc := cJ5_length_8abf5) (maxL := 1) (ret := (some .int)) (by decide) rfl (Nat.le_of_ble_eq_true rfl) ?_
  intro p e s m below meth cq S9 hr hlocks hPB ls hl
  obtain ⟨hxq, hb, hml, hown, hts⟩ := id S9
  obtain ⟨⟨⟨hP, hK⟩, hSK⟩, hDZ⟩ := hPB
  have hS : va_S (wA [(sb, .inr (1, [.ref vb, .int 0, .int ml, .int (nI n)])), (vb, .inl (cy 0, 16, .inl f))]) s.heap s.heap [] := va_S.rf
  have hl : lv_has ls 1 [(0, .ref sb)] := hl
  have hi1 : ∀ w ∈ wsJ40, w ∈ wsJ5_length_8abf5 := by decide +kernel
  have hf79 := hts (.fieldLink RJ5 79 "java/lang/AbstractStringBuilder" "count" "I") (by decide +kernel)
  refine lv_aload_n hxq hb dJ5_length_8abf5_0 rfl (lv_at hl 0 rfl) ?_
  refine va_get (D := G) (ci := 1) (v := .int (nI n)) (C := RJ4) (T := TJ4) (N := 4) hxq hb hts hi1 hown hK.1 hP 0 rfl rfl 3 (by decide) hf79 (fun _ h9 => h9) rfl dJ5_length_8abf5_1 ?_
  exact ro_iret hxq hb hr hlocks rfl dJ5_length_8abf5_4

set_option maxRecDepth 100000 in
set_option maxHeartbeats 1000000 in
theorem c_J4_length_8abf5 (l : Launch) (G : va_G) (cy : Nat → ClassId) (kS vS : Nat → Nat) (sb vb n : Nat) (ml : Int32) (f : Nat → Int32) : RO l yJ4_length_8abf5 wsJ4_length_8abf5 { frames := 1, cells := 0, slots := 0, locals := 20 } (PD G cy kS vS [(sb, .inr (1, [.ref vb, .int 0, .int ml, .int (nI n)])), (vb, .inl (cy 0, 16, .inl f))]) [.ref sb] (some (.int (nI n))) := by
  refine RO.ofW (cc := cJ4_length_8abf5) (maxL := 1) (ret := (some .int)) (by decide) rfl (Nat.le_of_ble_eq_true rfl) ?_
  intro p e s m below meth cq S9 hr hlocks hPB ls hl
  obtain ⟨hxq, hb, hml, hown, hts⟩ := id S9
  obtain ⟨⟨⟨hP, hK⟩, hSK⟩, hDZ⟩ := hPB
  have hS : va_S (wA [(sb, .inr (1, [.ref vb, .int 0, .int ml, .int (nI n)])), (vb, .inl (cy 0, 16, .inl f))]) s.heap s.heap [] := va_S.rf
  have hl : lv_has ls 1 [(0, .ref sb)] := hl
  refine lv_aload_n hxq hb dJ4_length_8abf5_0 rfl (lv_at hl 0 rfl) ?_
  refine c_roSUi (hK.1.1 1 _ rfl).2 S9 (c_J5_length_8abf5 l G cy kS vS sb vb n ml f) (va_cwSU 0 hts gJ4_length_8abf5_J5_length_8abf5_s343 rfl rfl rfl (by decide +kernel) ⟨Nat.le_of_ble_eq_true rfl, Nat.le_of_ble_eq_true rfl⟩) PD.blind (va_recv hK.1 hP (ci := 1) (q0 := 0) rfl rfl) (PD.at hDZ hSK hS (wA_subR [0, 1] rfl) hK (m_Ppart hP [0, 1] rfl)) rfl hl.1 rfl (Nat.le_of_ble_eq_true rfl) ⟨Nat.zero_le _, Nat.zero_le _⟩ dJ4_length_8abf5_1 ?_
  exact ro_iret hxq hb hr hlocks rfl dJ4_length_8abf5_4

set_option maxRecDepth 100000 in
set_option maxHeartbeats 1000000 in
theorem c_J1_canEncode_fc78d (l : Launch) (G : va_G) (cy : Nat → ClassId) (ch : Int32) (hc9 : ch ≤ 255) : RO l yJ1_canEncode_fc78d wsJ1_canEncode_fc78d { frames := 0, cells := 0, slots := 0, locals := 0 } (PB G cy []) [.int ch] (some (.int 1)) := by
  refine RO.ofW (cc := cJ1_canEncode_fc78d) (maxL := 1) (ret := (some .boolean)) (by decide) rfl (Nat.le_of_ble_eq_true rfl) ?_
  intro p e s m below meth cq S9 hr hlocks hPB ls hl
  obtain ⟨hxq, hb, hml, hown, hts⟩ := id S9
  obtain ⟨hP, hK⟩ := hPB
  have hl : lv_has ls 1 [(0, .int ch)] := hl
  refine lv_iload_n hxq hb dJ1_canEncode_fc78d_0 rfl (lv_at hl 0 rfl) ?_
  refine lv_sipush (v := 255) hxq hb dJ1_canEncode_fc78d_1 (by decide) ?_
  refine lv_icmp_gt (tgt := 11) hxq hb dJ1_canEncode_fc78d_4 (by decide) (fun c_1 => ?_) (fun c_1 => ?_)
  · exact absurd hc9 (Int32.not_le.mpr c_1)
  · have c_1' : ch ≤ 255 := Int32.not_lt.mp c_1
    refine lv_iconst (v := 1) hxq hb dJ1_canEncode_fc78d_7 (by decide) ?_
    refine lv_goto (tgt := 12) hxq hb dJ1_canEncode_fc78d_8 (by decide) ?_
    exact ro_zret hxq hb hr hlocks (by first | rfl | (split <;> rfl)) rfl dJ1_canEncode_fc78d_12

set_option maxRecDepth 100000 in
set_option maxHeartbeats 1000000 in
theorem c_J5_append_3fe6f (l : Launch) (G : va_G) (cy : Nat → ClassId) (kS vS : Nat → Nat) (sb vb n : Nat) (ml : Int32) (f : Nat → Int32) (ch : Int32) (hn9 : n < 16) (hc9 : ch ≤ 255) (hb9 : ch.toInt8.toInt32 = ch) (hb8 : vp_nar .byte ch = ch) : WC l yJ5_append_3fe6f wsJ5_append_3fe6f { frames := 1, cells := 0, slots := 0, locals := 22 } G (PD G cy kS vS [(sb, .inr (1, [.ref vb, .int 0, .int ml, .int (nI n)])), (vb, .inl (cy 0, 16, .inl f))]) [.ref sb, .int ch] [(sb, .inr (1, [.ref vb, .int 0, .int ml, .int (nI n)])), (vb, .inl (cy 0, 16, .inl f))] [(sb, .inr (1, [.ref vb, .int 0, .int ml, .int (nI (n + 1))])), (vb, .inl (cy 0, 16, .inl (upd f n ch)))] (some (.ref sb)) := by
  refine WC.ofW (cc := cJ5_append_3fe6f) (maxL := 2) (ret := (some (.object "java/lang/AbstractStringBuilder"))) (by decide) rfl (Nat.le_of_ble_eq_true rfl) ?_
  intro p e s m below meth cq S9 hr hlocks hPB hD hS ls hl
  obtain ⟨hxq, hb, hml, hown, hts⟩ := id S9
  obtain ⟨⟨⟨hP, hK⟩, hSK⟩, hDZ⟩ := hPB
  have hl : lv_has ls 2 [(0, .ref sb), (1, .int ch)] := hl
  have hi1 : ∀ w ∈ wsJ40, w ∈ wsJ5_append_3fe6f := by decide +kernel
  have hf15 := hts (.fieldLink RJ5 15 "java/lang/AbstractStringBuilder" "value" "[B") (by decide +kernel)
  have hf79 := hts (.fieldLink RJ5 79 "java/lang/AbstractStringBuilder" "count" "I") (by decide +kernel)
  refine lv_aload_n hxq hb dJ5_append_3fe6f_0 rfl (lv_at hl 0 rfl) ?_
  refine lv_aload_n hxq hb dJ5_append_3fe6f_1 rfl (lv_at hl 0 rfl) ?_
  refine va_get (D := G) (ci := 1) (v := .int (nI n)) (C := RJ4) (T := TJ4) (N := 4) hxq hb hts hi1 hown hK.1 hP 0 rfl rfl 3 (by decide) hf79 (fun _ h9 => h9) rfl dJ5_append_3fe6f_2 ?_
  refine lv_iconst (v := 1) hxq hb dJ5_append_3fe6f_5 (by decide) ?_
  refine lv_iadd hxq hb dJ5_append_3fe6f_6 ?_
  refine lv_t0 (show (nI n) + 1 = nI (n + 1) from (m_add rfl rfl)) ?_
  refine c_roUv S9 (c_J5_ensureCapacityInternal_d00df l G cy kS vS sb vb n ml f (n + 1) (by omega)) (va_cwU 1 hts gJ5_append_3fe6f_J5_ensureCapacityInternal_d00df_u100J4 rfl rfl rfl rfl (by decide +kernel) ⟨Nat.le_of_ble_eq_true rfl, Nat.le_of_ble_eq_true rfl⟩) PD.blind (va_recv hK.1 hP (ci := 1) (q0 := 0) rfl rfl) (PD.at hDZ hSK hS (wA_sub hD [0, 1] rfl) hK (m_Ppart hP [0, 1] rfl)) rfl hl.1 rfl (Nat.le_of_ble_eq_true rfl) ⟨Nat.zero_le _, Nat.zero_le _⟩ dJ5_append_3fe6f_7 ?_
  refine lv_aload_n hxq hb dJ5_append_3fe6f_10 rfl (lv_at hl 0 rfl) ?_
  refine c_roUi S9 (c_J5_isLatin1_aae02 l G cy kS vS sb vb n ml f) (va_cwU 0 hts gJ5_append_3fe6f_J5_isLatin1_aae02_u83J4 rfl rfl rfl rfl (by decide +kernel) ⟨Nat.le_of_ble_eq_true rfl, Nat.le_of_ble_eq_true rfl⟩) PD.blind (va_recv hK.1 hP (ci := 1) (q0 := 0) rfl rfl) (PD.at hDZ hSK hS (wA_sub hD [0, 1] rfl) hK (m_Ppart hP [0, 1] rfl)) rfl hl.1 rfl (Nat.le_of_ble_eq_true rfl) ⟨Nat.zero_le _, Nat.zero_le _⟩ dJ5_append_3fe6f_11 ?_
  refine lv_if_eq (tgt := 45) hxq hb dJ5_append_3fe6f_14 (by decide) (fun c_1 => ?_) (fun c_1 => ?_)
  · exact absurd c_1 (by decide)
  · refine lv_iload_n hxq hb dJ5_append_3fe6f_17 rfl (lv_at hl 1 rfl) ?_
    refine c_roSi S9 (c_J1_canEncode_fc78d l G cy ch hc9) (va_cwS 1 hts gJ5_append_3fe6f_J1_canEncode_fc78d rfl rfl rfl (by decide +kernel) ⟨Nat.le_of_ble_eq_true rfl, Nat.le_of_ble_eq_true rfl⟩) PB.blind (PB.at hK (m_Ppart hP [] rfl)) rfl hl.1 rfl (Nat.le_of_ble_eq_true rfl) ⟨Nat.zero_le _, Nat.zero_le _⟩ dJ5_append_3fe6f_18 ?_
    refine lv_if_eq (tgt := 45) hxq hb dJ5_append_3fe6f_21 (by decide) (fun c_2 => ?_) (fun c_2 => ?_)
    · exact absurd c_2 (by decide)
    · refine lv_aload_n hxq hb dJ5_append_3fe6f_24 rfl (lv_at hl 0 rfl) ?_
      refine va_get (D := G) (ci := 1) (v := .ref vb) (C := RJ4) (T := TJ4) (N := 4) hxq hb hts hi1 hown hK.1 hP 0 rfl rfl 0 (by decide) hf15 (fun _ h9 => h9) rfl dJ5_append_3fe6f_25 ?_
      refine lv_aload_n hxq hb dJ5_append_3fe6f_28 rfl (lv_at hl 0 rfl) ?_
      refine lv_dup hxq hb dJ5_append_3fe6f_29 rfl ?_
      refine va_get (D := G) (ci := 1) (v := .int (nI n)) (C := RJ4) (T := TJ4) (N := 4) hxq hb hts hi1 hown hK.1 hP 0 rfl rfl 3 (by decide) hf79 (fun _ h9 => h9) rfl dJ5_append_3fe6f_30 ?_
      refine lv_dup_x1 hxq hb dJ5_append_3fe6f_33 rfl rfl ?_
      refine lv_iconst (v := 1) hxq hb dJ5_append_3fe6f_34 (by decide) ?_
      refine lv_iadd hxq hb dJ5_append_3fe6f_35 ?_
      refine lv_t0 (show (nI n) + 1 = nI (n + 1) from (m_add rfl rfl)) ?_
      refine va_put (D := G) (ci := 1) (v := .int (nI (n + 1))) (ty := .int) (C := RJ4) (T := TJ4) (N := 4) hxq hb hts hi1 tyJ4 tyJ4_ok nmJ4 hown hK.1 hP hD hS 0 rfl rfl 3 (by decide) hf79 (fun _ h9 => h9) rfl (by decide +kernel) rfl rfl (Nat.le_of_ble_eq_true rfl) dJ5_append_3fe6f_36 (fun H locs hP hD hS => ?_)
      have hP : va_P G vwCl [(sb, .inr (1, [.ref vb, .int 0, .int ml, .int (nI (n + 1))])), (vb, .inl (cy 0, 16, .inl f))] H := hP
      have hD : va_D (wA [(sb, .inr (1, [.ref vb, .int 0, .int ml, .int (nI n)])), (vb, .inl (cy 0, 16, .inl f))]) [(sb, .inr (1, [.ref vb, .int 0, .int ml, .int (nI (n + 1))])), (vb, .inl (cy 0, 16, .inl f))] := hD
      refine lv_iload_n hxq hb dJ5_append_3fe6f_39 rfl (lv_at hl 1 rfl) ?_
      refine lv_i2b (v := ch) hxq hb dJ5_append_3fe6f_40 hb9 ?_
      refine m_bast hxq hb hK hP hD hS 1 (k := n) rfl rfl (by omega) (Nat.le_of_ble_eq_true rfl) hb8 dJ5_append_3fe6f_41 (fun H locs hP hD hS => ?_)
      have hP : va_P G vwCl [(sb, .inr (1, [.ref vb, .int 0, .int ml, .int (nI (n + 1))])), (vb, .inl (cy 0, 16, .inl (upd f n ch)))] H := hP
      have hD : va_D (wA [(sb, .inr (1, [.ref vb, .int 0, .int ml, .int (nI n)])), (vb, .inl (cy 0, 16, .inl f))]) [(sb, .inr (1, [.ref vb, .int 0, .int ml, .int (nI (n + 1))])), (vb, .inl (cy 0, 16, .inl (upd f n ch)))] := hD
      refine lv_goto (tgt := 75) hxq hb dJ5_append_3fe6f_42 (by decide) ?_
      refine lv_aload_n hxq hb dJ5_append_3fe6f_75 rfl (lv_at hl 0 rfl) ?_
      exact wc_aret hxq hb hr hlocks (Or.inl ⟨_, rfl⟩) hP hS dJ5_append_3fe6f_76

set_option maxRecDepth 100000 in
set_option maxHeartbeats 1000000 in
theorem c_J4_append_cf468 (l : Launch) (G : va_G) (cy : Nat → ClassId) (kS vS : Nat → Nat) (sb vb n : Nat) (ml : Int32) (f : Nat → Int32) (ch : Int32) (hn9 : n < 16) (hc9 : ch ≤ 255) (hb9 : ch.toInt8.toInt32 = ch) (hb8 : vp_nar .byte ch = ch) : WC l yJ4_append_cf468 wsJ4_append_cf468 { frames := 2, cells := 0, slots := 0, locals := 43 } G (PD G cy kS vS [(sb, .inr (1, [.ref vb, .int 0, .int ml, .int (nI n)])), (vb, .inl (cy 0, 16, .inl f))]) [.ref sb, .int ch] [(sb, .inr (1, [.ref vb, .int 0, .int ml, .int (nI n)])), (vb, .inl (cy 0, 16, .inl f))] [(sb, .inr (1, [.ref vb, .int 0, .int ml, .int (nI (n + 1))])), (vb, .inl (cy 0, 16, .inl (upd f n ch)))] (some (.ref sb)) := by
  refine WC.ofW (cc := cJ4_append_cf468) (maxL := 2) (ret := (some (.object "java/lang/StringBuilder"))) (by decide) rfl (Nat.le_of_ble_eq_true rfl) ?_
  intro p e s m below meth cq S9 hr hlocks hPB hD hS ls hl
  obtain ⟨hxq, hb, hml, hown, hts⟩ := id S9
  obtain ⟨⟨⟨hP, hK⟩, hSK⟩, hDZ⟩ := hPB
  have hl : lv_has ls 2 [(0, .ref sb), (1, .int ch)] := hl
  refine lv_aload_n hxq hb dJ4_append_cf468_0 rfl (lv_at hl 0 rfl) ?_
  refine lv_iload_n hxq hb dJ4_append_cf468_1 rfl (lv_at hl 1 rfl) ?_
  refine c_wcSUr (ws' := [(sb, .inr (1, [.ref vb, .int 0, .int ml, .int (nI (n + 1))])), (vb, .inl (cy 0, 16, .inl (upd f n ch)))]) (hK.1.1 1 _ rfl).2 S9 (c_J5_append_3fe6f l G cy kS vS sb vb n ml f ch (by omega) hc9 hb9 hb8) (va_cwSU 1 hts gJ4_append_cf468_J5_append_3fe6f_s50 rfl rfl rfl (by decide +kernel) ⟨Nat.le_of_ble_eq_true rfl, Nat.le_of_ble_eq_true rfl⟩) PD.blind (va_recv hK.1 hP (ci := 1) (q0 := 0) rfl rfl) (PD.at hDZ hSK hS (wA_sub hD [0, 1] rfl) hK (m_Ppart hP [0, 1] rfl)) hP hD hS [0, 1] rfl rfl rfl rfl rfl hl.1 rfl (Nat.le_of_ble_eq_true rfl) ⟨Nat.zero_le _, Nat.zero_le _⟩ dJ4_append_cf468_2 (fun H locs hP hD hS => ?_)
  refine lv_pop hxq hb dJ4_append_cf468_5 rfl ?_
  refine lv_aload_n hxq hb dJ4_append_cf468_6 rfl (lv_at hl 0 rfl) ?_
  exact wc_aret hxq hb hr hlocks (Or.inl ⟨_, rfl⟩) hP hS dJ4_append_cf468_7

set_option maxRecDepth 100000 in
set_option maxHeartbeats 1000000 in
theorem c_J6_stringSize_1 (l : Launch) (G : va_G) (cy : Nat → ClassId) (k : Nat) (hk9 : k < 1000) (hhi : k < 10) : RO l yJ6_stringSize_0f7a4 wsJ6_stringSize_0f7a4 { frames := 0, cells := 0, slots := 0, locals := 0 } (PB G cy []) [.int (nI k)] (some (.int 1)) := by
  refine RO.ofW (cc := cJ6_stringSize_0f7a4) (maxL := 4) (ret := (some .int)) (by decide) rfl (Nat.le_of_ble_eq_true rfl) ?_
  intro p e s m below meth cq S9 hr hlocks hPB ls hl
  obtain ⟨hxq, hb, hml, hown, hts⟩ := id S9
  obtain ⟨hP, hK⟩ := hPB
  have hl : lv_has ls 4 [(0, .int (nI k))] := hl
  refine lv_iconst (v := 1) hxq hb dJ6_stringSize_0f7a4_0 (by decide) ?_
  refine lv_istore_n (lv' := [(1, .int 1), (0, .int (nI k))]) hxq hb dJ6_stringSize_0f7a4_1 rfl hl (by decide) rfl (fun ls hl => ?_)
  refine lv_iload_n hxq hb dJ6_stringSize_0f7a4_2 rfl (lv_at hl 1 rfl) ?_
  refine lv_if_lt (tgt := 11) hxq hb dJ6_stringSize_0f7a4_3 (by decide) (fun c_1 => ?_) (fun c_1 => ?_)
  · exact absurd c_1 (by rw [Int32.not_lt, Int32.le_iff_toInt_le, nI_toInt (by omega), Int32.toInt_zero]; omega)
  · have k_2 : ¬ (k < 0) := fun z => c_1 ((m_ltN (a := k) (b := 0) rfl rfl (by omega) (by omega)).mpr z)
    have k_2' : 0 ≤ k := by omega
    refine lv_iconst (v := 0) hxq hb dJ6_stringSize_0f7a4_6 (by decide) ?_
    refine lv_istore_n (lv' := [(1, .int 0), (0, .int (nI k))]) hxq hb dJ6_stringSize_0f7a4_7 rfl hl (by decide) rfl (fun ls hl => ?_)
    refine lv_iload_n hxq hb dJ6_stringSize_0f7a4_8 rfl (lv_at hl 1 rfl) ?_
    refine lv_ineg hxq hb dJ6_stringSize_0f7a4_9 ?_
    refine lv_istore_n (lv' := [(0, .int (-(nI k))), (1, .int 0)]) hxq hb dJ6_stringSize_0f7a4_10 rfl hl (by decide) rfl (fun ls hl => ?_)
    refine lv_bipush (v := (-10)) hxq hb dJ6_stringSize_0f7a4_11 (by decide) ?_
    refine lv_istore_n (lv' := [(2, .int (-10)), (0, .int (-(nI k))), (1, .int 0)]) hxq hb dJ6_stringSize_0f7a4_13 rfl hl (by decide) rfl (fun ls hl => ?_)
    refine lv_iconst (v := 1) hxq hb dJ6_stringSize_0f7a4_14 (by decide) ?_
    refine lv_istore_n (lv' := [(3, .int 1), (2, .int (-10)), (0, .int (-(nI k))), (1, .int 0)]) hxq hb dJ6_stringSize_0f7a4_15 rfl hl (by decide) rfl (fun ls hl => ?_)
    refine lv_iload_n hxq hb dJ6_stringSize_0f7a4_16 rfl (lv_at hl 0 rfl) ?_
    refine lv_bipush (v := 10) hxq hb dJ6_stringSize_0f7a4_17 (by decide) ?_
    refine lv_icmp_ge (tgt := 42) hxq hb dJ6_stringSize_0f7a4_19 (by decide) (fun c_3 => ?_) (fun c_3 => ?_)
    · exact absurd c_3 (by decide)
    · refine lv_iload_n hxq hb dJ6_stringSize_0f7a4_22 rfl (lv_at hl 2 rfl) ?_
      refine lv_iload_n hxq hb dJ6_stringSize_0f7a4_23 rfl (lv_at hl 1 rfl) ?_
      refine lv_icmp_le (tgt := 31) hxq hb dJ6_stringSize_0f7a4_24 (by decide) (fun c_4 => ?_) (fun c_4 => ?_)
      · exact absurd c_4 (Int32.not_le.mpr (m_gtN hk9 (show (-10 : Int32).toInt = -10 from by decide) (by omega)))
      · have c_4' : (-10) < (-(nI k)) := Int32.not_le.mp c_4
        refine lv_iload_n hxq hb dJ6_stringSize_0f7a4_27 rfl (lv_at hl 0 rfl) ?_
        refine lv_iload_n hxq hb dJ6_stringSize_0f7a4_28 rfl (lv_at hl 3 rfl) ?_
        refine lv_iadd hxq hb dJ6_stringSize_0f7a4_29 ?_
        exact ro_iret hxq hb hr hlocks (by decide) dJ6_stringSize_0f7a4_30

set_option maxRecDepth 100000 in
set_option maxHeartbeats 1000000 in
theorem c_J6_getChars_1 (l : Launch) (G : va_G) (cy : Nat → ClassId) (kS vS : Nat → Nat) (vb n : Nat) (f : Nat → Int32) (k : Nat) (hk9 : k < 1000) (hhi : k < 10) (hn9 : n + 1 ≤ 16) : WC l yJ6_getChars_ba4f3 wsJ6_getChars_ba4f3 { frames := 0, cells := 0, slots := 0, locals := 0 } G (PD G cy kS vS [(vb, .inl (cy 0, 16, .inl f))]) [.int (nI k), .int (nI (n + 1)), .ref vb] [(vb, .inl (cy 0, 16, .inl f))] [(vb, .inl (cy 0, 16, .inl (upd f n (nI (48 + k % 10)))))] (some (.int (nI n))) := by
  refine WC.ofW (cc := cJ6_getChars_ba4f3) (maxL := 7) (ret := (some .int)) (by decide) rfl (Nat.le_of_ble_eq_true rfl) ?_
  intro p e s m below meth cq S9 hr hlocks hPB hD hS ls hl
  obtain ⟨hxq, hb, hml, hown, hts⟩ := id S9
  obtain ⟨⟨⟨hP, hK⟩, hSK⟩, hDZ⟩ := hPB
  have hl : lv_has ls 7 [(0, .int (nI k)), (1, .int (nI (n + 1))), (2, .ref vb)] := hl
  obtain ⟨⟨t1, hz_t1, hv_t1⟩, t2, hz_t2, hv_t2⟩ := id hDZ
  refine lv_iload_n hxq hb dJ6_getChars_ba4f3_0 rfl (lv_at hl 1 rfl) ?_
  refine lv_istore (lv' := [(5, .int (nI (n + 1))), (0, .int (nI k)), (1, .int (nI (n + 1))), (2, .ref vb)]) hxq hb dJ6_getChars_ba4f3_1 hl (by decide) rfl (fun ls hl => ?_)
  refine lv_iload_n hxq hb dJ6_getChars_ba4f3_3 rfl (lv_at hl 1 rfl) ?_
  refine lv_if_ge (tgt := 11) hxq hb dJ6_getChars_ba4f3_4 (by decide) (fun c_1 => ?_) (fun c_1 => ?_)
  · have k_2 : 0 ≤ k := (m_leN (a := 0) (b := k) rfl rfl (by omega) (by omega)).mp c_1
    have k_2' : ¬ (k < 0) := by omega
    refine lv_iconst (v := 0) hxq hb dJ6_getChars_ba4f3_11 (by decide) ?_
    refine lv_istore (lv' := [(6, .int 0), (5, .int (nI (n + 1))), (0, .int (nI k)), (1, .int (nI (n + 1))), (2, .ref vb)]) hxq hb dJ6_getChars_ba4f3_12 hl (by decide) rfl (fun ls hl => ?_)
    refine lv_iload hxq hb dJ6_getChars_ba4f3_14 (lv_at hl 0 rfl) ?_
    refine lv_if_ne (tgt := 22) hxq hb dJ6_getChars_ba4f3_16 (by decide) (fun c_3 => ?_) (fun c_3 => ?_)
    · exact absurd c_3 (by decide)
    · refine lv_iload_n hxq hb dJ6_getChars_ba4f3_19 rfl (lv_at hl 2 rfl) ?_
      refine lv_ineg hxq hb dJ6_getChars_ba4f3_20 ?_
      refine lv_istore_n (lv' := [(0, .int (-(nI k))), (6, .int 0), (5, .int (nI (n + 1))), (1, .int (nI (n + 1))), (2, .ref vb)]) hxq hb dJ6_getChars_ba4f3_21 rfl hl (by decide) rfl (fun ls hl => ?_)
      refine lv_iload_n hxq hb dJ6_getChars_ba4f3_22 rfl (lv_at hl 0 rfl) ?_
      refine lv_bipush (v := (-100)) hxq hb dJ6_getChars_ba4f3_23 (by decide) ?_
      refine lv_icmp_gt (tgt := 72) hxq hb dJ6_getChars_ba4f3_25 (by decide) (fun c_4 => ?_) (fun c_4 => ?_)
      · have c_4' : ¬ (-(nI k)) ≤ (-100) := Int32.not_le.mpr c_4
        refine lv_aload_n hxq hb dJ6_getChars_ba4f3_72 rfl (lv_at hl 4 rfl) ?_
        refine lv_iinc (v := nI n) (lv' := [(5, .int (nI n)), (0, .int (-(nI k))), (6, .int 0), (1, .int (nI (n + 1))), (2, .ref vb)]) hxq hb dJ6_getChars_ba4f3_73 hl (k := 2) rfl (m_dec _) (by decide) rfl (fun ls hl => ?_)
        refine lv_iload hxq hb dJ6_getChars_ba4f3_76 (lv_at hl 0 rfl) ?_
        refine va_gets hxq hb hz_t1 hS hown (hts (.fieldLink RJ6 83 "java/lang/Integer" "DigitOnes" "[B") (by decide +kernel)) (fun _ h9 => h9) dJ6_getChars_ba4f3_78 ?_
        refine lv_iload_n hxq hb dJ6_getChars_ba4f3_81 rfl (lv_at hl 1 rfl) ?_
        refine lv_ineg hxq hb dJ6_getChars_ba4f3_82 ?_
        refine lv_t0 (m_nn k) ?_
        refine va_tb hxq hb hv_t1 hS (i := nI k) (v := .int (nI (48 + k % 10))) (vp_in_nI (show k < 100 by omega) (by decide)) (by rw [nI_clamp (by omega)]; rfl) dJ6_getChars_ba4f3_83 ?_
        refine m_bast hxq hb hK hP hD hS 0 (k := n) rfl rfl (by omega) (Nat.le_of_ble_eq_true rfl) (nar_b (by omega)) dJ6_getChars_ba4f3_84 (fun H locs hP hD hS => ?_)
        have hP : va_P G vwCl [(vb, .inl (cy 0, 16, .inl (upd f n (nI (48 + k % 10)))))] H := hP
        have hD : va_D (wA [(vb, .inl (cy 0, 16, .inl f))]) [(vb, .inl (cy 0, 16, .inl (upd f n (nI (48 + k % 10)))))] := hD
        refine lv_iload_n hxq hb dJ6_getChars_ba4f3_85 rfl (lv_at hl 1 rfl) ?_
        refine lv_bipush (v := (-9)) hxq hb dJ6_getChars_ba4f3_86 (by decide) ?_
        refine lv_icmp_ge (tgt := 104) hxq hb dJ6_getChars_ba4f3_88 (by decide) (fun c_5 => ?_) (fun c_5 => ?_)
        · have c_5' : ¬ (-(nI k)) < (-9) := Int32.not_lt.mpr c_5
          refine lv_iload hxq hb dJ6_getChars_ba4f3_104 (lv_at hl 2 rfl) ?_
          refine lv_if_eq (tgt := 118) hxq hb dJ6_getChars_ba4f3_106 (by decide) (fun c_6 => ?_) (fun c_6 => ?_)
          · refine lv_iload hxq hb dJ6_getChars_ba4f3_118 (lv_at hl 0 rfl) ?_
            exact wc_iret hxq hb hr hlocks hP hS rfl dJ6_getChars_ba4f3_120
          · exact absurd c_6 (by decide)
        · exact absurd (show (-9 : Int32) ≤ -(nI k) from m_geM (by omega) (show (-9 : Int32).toInt = -9 from by decide) (by omega)) c_5
      · exact absurd (show (-100 : Int32) < -(nI k) from m_gtN (by omega) (show (-100 : Int32).toInt = -100 from by decide) (by omega)) c_4
  · exact absurd (by rw [Int32.le_iff_toInt_le, nI_toInt (by omega), Int32.toInt_zero]; omega) c_1

set_option maxRecDepth 100000 in
set_option maxHeartbeats 1000000 in
theorem c_J5_append_c97b9_1 (l : Launch) (G : va_G) (cy : Nat → ClassId) (kS vS : Nat → Nat) (sb vb n : Nat) (ml : Int32) (f : Nat → Int32) (k : Nat) (hk9 : k < 1000) (hhi : k < 10) (hn9 : n + 1 ≤ 16) : WC l yJ5_append_c97b9 wsJ5_append_c97b9 { frames := 1, cells := 0, slots := 0, locals := 26 } G (PD G cy kS vS [(sb, .inr (1, [.ref vb, .int 0, .int ml, .int (nI n)])), (vb, .inl (cy 0, 16, .inl f))]) [.ref sb, .int (nI k)] [(sb, .inr (1, [.ref vb, .int 0, .int ml, .int (nI n)])), (vb, .inl (cy 0, 16, .inl f))] [(sb, .inr (1, [.ref vb, .int 0, .int ml, .int (nI (n + 1))])), (vb, .inl (cy 0, 16, .inl (upd f n (nI (48 + k % 10)))))] (some (.ref sb)) := by
  refine WC.ofW (cc := cJ5_append_c97b9) (maxL := 4) (ret := (some (.object "java/lang/AbstractStringBuilder"))) (by decide) rfl (Nat.le_of_ble_eq_true rfl) ?_
  intro p e s m below meth cq S9 hr hlocks hPB hD hS ls hl
  obtain ⟨hxq, hb, hml, hown, hts⟩ := id S9
  obtain ⟨⟨⟨hP, hK⟩, hSK⟩, hDZ⟩ := hPB
  have hl : lv_has ls 4 [(0, .ref sb), (1, .int (nI k))] := hl
  have hi1 : ∀ w ∈ wsJ40, w ∈ wsJ5_append_c97b9 := by decide +kernel
  have hf15 := hts (.fieldLink RJ5 15 "java/lang/AbstractStringBuilder" "value" "[B") (by decide +kernel)
  have hf79 := hts (.fieldLink RJ5 79 "java/lang/AbstractStringBuilder" "count" "I") (by decide +kernel)
  refine lv_aload_n hxq hb dJ5_append_c97b9_0 rfl (lv_at hl 0 rfl) ?_
  refine va_get (D := G) (ci := 1) (v := .int (nI n)) (C := RJ4) (T := TJ4) (N := 4) hxq hb hts hi1 hown hK.1 hP 0 rfl rfl 3 (by decide) hf79 (fun _ h9 => h9) rfl dJ5_append_c97b9_1 ?_
  refine lv_istore_n (lv' := [(2, .int (nI n)), (0, .ref sb), (1, .int (nI k))]) hxq hb dJ5_append_c97b9_4 rfl hl (by decide) rfl (fun ls hl => ?_)
  refine lv_iload_n hxq hb dJ5_append_c97b9_5 rfl (lv_at hl 0 rfl) ?_
  refine lv_iload_n hxq hb dJ5_append_c97b9_6 rfl (lv_at hl 2 rfl) ?_
  refine c_roSi S9 (c_J6_stringSize_1 l G cy k hk9 hhi) (va_cwS 1 hts gJ5_append_c97b9_J6_stringSize_0f7a4 rfl rfl rfl (by decide +kernel) ⟨Nat.le_of_ble_eq_true rfl, Nat.le_of_ble_eq_true rfl⟩) PB.blind (PB.at hK (m_Ppart hP [] rfl)) rfl hl.1 rfl (Nat.le_of_ble_eq_true rfl) ⟨Nat.zero_le _, Nat.zero_le _⟩ dJ5_append_c97b9_7 ?_
  refine lv_iadd hxq hb dJ5_append_c97b9_10 ?_
  refine lv_istore_n (lv' := [(3, .int ((nI n) + 1)), (2, .int (nI n)), (0, .ref sb), (1, .int (nI k))]) hxq hb dJ5_append_c97b9_11 rfl hl (by decide) rfl (fun ls hl => ?_)
  refine lv_aload_n hxq hb dJ5_append_c97b9_12 rfl (lv_at hl 2 rfl) ?_
  refine lv_iload_n hxq hb dJ5_append_c97b9_13 rfl (lv_at hl 0 rfl) ?_
  refine lv_t0 (show (nI n) + 1 = nI (n + 1) from (m_add rfl rfl)) ?_
  refine c_roUv S9 (c_J5_ensureCapacityInternal_d00df l G cy kS vS sb vb n ml f (n + 1) (by omega)) (va_cwU 1 hts gJ5_append_c97b9_J5_ensureCapacityInternal_d00df_u100J4 rfl rfl rfl rfl (by decide +kernel) ⟨Nat.le_of_ble_eq_true rfl, Nat.le_of_ble_eq_true rfl⟩) PD.blind (va_recv hK.1 hP (ci := 1) (q0 := 0) rfl rfl) (PD.at hDZ hSK hS (wA_sub hD [0, 1] rfl) hK (m_Ppart hP [0, 1] rfl)) rfl hl.1 rfl (Nat.le_of_ble_eq_true rfl) ⟨Nat.zero_le _, Nat.zero_le _⟩ dJ5_append_c97b9_14 ?_
  refine lv_aload_n hxq hb dJ5_append_c97b9_17 rfl (lv_at hl 2 rfl) ?_
  refine c_roUi S9 (c_J5_isLatin1_aae02 l G cy kS vS sb vb n ml f) (va_cwU 0 hts gJ5_append_c97b9_J5_isLatin1_aae02_u83J4 rfl rfl rfl rfl (by decide +kernel) ⟨Nat.le_of_ble_eq_true rfl, Nat.le_of_ble_eq_true rfl⟩) PD.blind (va_recv hK.1 hP (ci := 1) (q0 := 0) rfl rfl) (PD.at hDZ hSK hS (wA_sub hD [0, 1] rfl) hK (m_Ppart hP [0, 1] rfl)) rfl hl.1 rfl (Nat.le_of_ble_eq_true rfl) ⟨Nat.zero_le _, Nat.zero_le _⟩ dJ5_append_c97b9_18 ?_
  refine lv_if_eq (tgt := 37) hxq hb dJ5_append_c97b9_21 (by decide) (fun c_1 => ?_) (fun c_1 => ?_)
  · exact absurd c_1 (by decide)
  · refine lv_iload_n hxq hb dJ5_append_c97b9_24 rfl (lv_at hl 3 rfl) ?_
    refine lv_iload_n hxq hb dJ5_append_c97b9_25 rfl (lv_at hl 0 rfl) ?_
    refine lv_aload_n hxq hb dJ5_append_c97b9_26 rfl (lv_at hl 2 rfl) ?_
    refine va_get (D := G) (ci := 1) (v := .ref vb) (C := RJ4) (T := TJ4) (N := 4) hxq hb hts hi1 hown hK.1 hP 0 rfl rfl 0 (by decide) hf15 (fun _ h9 => h9) rfl dJ5_append_c97b9_27 ?_
    refine lv_t1 (show (nI n) + 1 = nI (n + 1) from (m_add rfl rfl)) ?_
    refine c_wcSi (ws' := [(sb, .inr (1, [.ref vb, .int 0, .int ml, .int (nI n)])), (vb, .inl (cy 0, 16, .inl (upd f n (nI (48 + k % 10)))))]) S9 (c_J6_getChars_1 l G cy kS vS vb n f k hk9 hhi (by omega)) (va_cwS 3 hts gJ5_append_c97b9_J6_getChars_ba4f3 rfl rfl rfl (by decide +kernel) ⟨Nat.le_of_ble_eq_true rfl, Nat.le_of_ble_eq_true rfl⟩) PD.blind (PD.at hDZ hSK hS (wA_sub hD [1] rfl) hK (m_Ppart hP [1] rfl)) hP hD hS [1] rfl rfl rfl rfl rfl hl.1 rfl (Nat.le_of_ble_eq_true rfl) ⟨Nat.zero_le _, Nat.zero_le _⟩ dJ5_append_c97b9_30 (fun H locs hP hD hS => ?_)
    refine lv_pop hxq hb dJ5_append_c97b9_33 rfl ?_
    refine lv_goto (tgt := 48) hxq hb dJ5_append_c97b9_34 (by decide) ?_
    refine lv_aload_n hxq hb dJ5_append_c97b9_48 rfl (lv_at hl 2 rfl) ?_
    refine lv_iload_n hxq hb dJ5_append_c97b9_49 rfl (lv_at hl 0 rfl) ?_
    refine lv_t0 (show (nI n) + 1 = nI (n + 1) from (m_add rfl rfl)) ?_
    refine va_put (D := G) (ci := 1) (v := .int (nI (n + 1))) (ty := .int) (C := RJ4) (T := TJ4) (N := 4) hxq hb hts hi1 tyJ4 tyJ4_ok nmJ4 hown hK.1 hP hD hS 0 rfl rfl 3 (by decide) hf79 (fun _ h9 => h9) rfl (by decide +kernel) rfl rfl (Nat.le_of_ble_eq_true rfl) dJ5_append_c97b9_50 (fun H locs hP hD hS => ?_)
    have hP : va_P G vwCl [(sb, .inr (1, [.ref vb, .int 0, .int ml, .int (nI (n + 1))])), (vb, .inl (cy 0, 16, .inl (upd f n (nI (48 + k % 10)))))] H := hP
    have hD : va_D (wA [(sb, .inr (1, [.ref vb, .int 0, .int ml, .int (nI n)])), (vb, .inl (cy 0, 16, .inl f))]) [(sb, .inr (1, [.ref vb, .int 0, .int ml, .int (nI (n + 1))])), (vb, .inl (cy 0, 16, .inl (upd f n (nI (48 + k % 10)))))] := hD
    refine lv_aload_n hxq hb dJ5_append_c97b9_53 rfl (lv_at hl 2 rfl) ?_
    exact wc_aret hxq hb hr hlocks (Or.inl ⟨_, rfl⟩) hP hS dJ5_append_c97b9_54

set_option maxRecDepth 100000 in
set_option maxHeartbeats 1000000 in
theorem c_J4_append_bf812_1 (l : Launch) (G : va_G) (cy : Nat → ClassId) (kS vS : Nat → Nat) (sb vb n : Nat) (ml : Int32) (f : Nat → Int32) (k : Nat) (hk9 : k < 1000) (hhi : k < 10) (hn9 : n + 1 ≤ 16) : WC l yJ4_append_bf812 wsJ4_append_bf812 { frames := 2, cells := 0, slots := 0, locals := 49 } G (PD G cy kS vS [(sb, .inr (1, [.ref vb, .int 0, .int ml, .int (nI n)])), (vb, .inl (cy 0, 16, .inl f))]) [.ref sb, .int (nI k)] [(sb, .inr (1, [.ref vb, .int 0, .int ml, .int (nI n)])), (vb, .inl (cy 0, 16, .inl f))] [(sb, .inr (1, [.ref vb, .int 0, .int ml, .int (nI (n + 1))])), (vb, .inl (cy 0, 16, .inl (upd f n (nI (48 + k % 10)))))] (some (.ref sb)) := by
  refine WC.ofW (cc := cJ4_append_bf812) (maxL := 2) (ret := (some (.object "java/lang/StringBuilder"))) (by decide) rfl (Nat.le_of_ble_eq_true rfl) ?_
  intro p e s m below meth cq S9 hr hlocks hPB hD hS ls hl
  obtain ⟨hxq, hb, hml, hown, hts⟩ := id S9
  obtain ⟨⟨⟨hP, hK⟩, hSK⟩, hDZ⟩ := hPB
  have hl : lv_has ls 2 [(0, .ref sb), (1, .int (nI k))] := hl
  refine lv_aload_n hxq hb dJ4_append_bf812_0 rfl (lv_at hl 0 rfl) ?_
  refine lv_iload_n hxq hb dJ4_append_bf812_1 rfl (lv_at hl 1 rfl) ?_
  refine c_wcSUr (ws' := [(sb, .inr (1, [.ref vb, .int 0, .int ml, .int (nI (n + 1))])), (vb, .inl (cy 0, 16, .inl (upd f n (nI (48 + k % 10)))))]) (hK.1.1 1 _ rfl).2 S9 (c_J5_append_c97b9_1 l G cy kS vS sb vb n ml f k hk9 hhi (by omega)) (va_cwSU 1 hts gJ4_append_bf812_J5_append_c97b9_s53 rfl rfl rfl (by decide +kernel) ⟨Nat.le_of_ble_eq_true rfl, Nat.le_of_ble_eq_true rfl⟩) PD.blind (va_recv hK.1 hP (ci := 1) (q0 := 0) rfl rfl) (PD.at hDZ hSK hS (wA_sub hD [0, 1] rfl) hK (m_Ppart hP [0, 1] rfl)) hP hD hS [0, 1] rfl rfl rfl rfl rfl hl.1 rfl (Nat.le_of_ble_eq_true rfl) ⟨Nat.zero_le _, Nat.zero_le _⟩ dJ4_append_bf812_2 (fun H locs hP hD hS => ?_)
  refine lv_pop hxq hb dJ4_append_bf812_5 rfl ?_
  refine lv_aload_n hxq hb dJ4_append_bf812_6 rfl (lv_at hl 0 rfl) ?_
  exact wc_aret hxq hb hr hlocks (Or.inl ⟨_, rfl⟩) hP hS dJ4_append_bf812_7

set_option maxRecDepth 100000 in
set_option maxHeartbeats 1000000 in
theorem c_J6_stringSize_2 (l : Launch) (G : va_G) (cy : Nat → ClassId) (k : Nat) (hk9 : k < 1000) (hlo : 10 ≤ k) (hhi : k < 100) : RO l yJ6_stringSize_0f7a4 wsJ6_stringSize_0f7a4 { frames := 0, cells := 0, slots := 0, locals := 0 } (PB G cy []) [.int (nI k)] (some (.int 2)) := by
  refine RO.ofW (cc := cJ6_stringSize_0f7a4) (maxL := 4) (ret := (some .int)) (by decide) rfl (Nat.le_of_ble_eq_true rfl) ?_
  intro p e s m below meth cq S9 hr hlocks hPB ls hl
  obtain ⟨hxq, hb, hml, hown, hts⟩ := id S9
  obtain ⟨hP, hK⟩ := hPB
  have hl : lv_has ls 4 [(0, .int (nI k))] := hl
  refine lv_iconst (v := 1) hxq hb dJ6_stringSize_0f7a4_0 (by decide) ?_
  refine lv_istore_n (lv' := [(1, .int 1), (0, .int (nI k))]) hxq hb dJ6_stringSize_0f7a4_1 rfl hl (by decide) rfl (fun ls hl => ?_)
  refine lv_iload_n hxq hb dJ6_stringSize_0f7a4_2 rfl (lv_at hl 1 rfl) ?_
  refine lv_if_lt (tgt := 11) hxq hb dJ6_stringSize_0f7a4_3 (by decide) (fun c_1 => ?_) (fun c_1 => ?_)
  · exact absurd c_1 (by rw [Int32.not_lt, Int32.le_iff_toInt_le, nI_toInt (by omega), Int32.toInt_zero]; omega)
  · have k_2 : ¬ (k < 0) := fun z => c_1 ((m_ltN (a := k) (b := 0) rfl rfl (by omega) (by omega)).mpr z)
    have k_2' : 0 ≤ k := by omega
    refine lv_iconst (v := 0) hxq hb dJ6_stringSize_0f7a4_6 (by decide) ?_
    refine lv_istore_n (lv' := [(1, .int 0), (0, .int (nI k))]) hxq hb dJ6_stringSize_0f7a4_7 rfl hl (by decide) rfl (fun ls hl => ?_)
    refine lv_iload_n hxq hb dJ6_stringSize_0f7a4_8 rfl (lv_at hl 1 rfl) ?_
    refine lv_ineg hxq hb dJ6_stringSize_0f7a4_9 ?_
    refine lv_istore_n (lv' := [(0, .int (-(nI k))), (1, .int 0)]) hxq hb dJ6_stringSize_0f7a4_10 rfl hl (by decide) rfl (fun ls hl => ?_)
    refine lv_bipush (v := (-10)) hxq hb dJ6_stringSize_0f7a4_11 (by decide) ?_
    refine lv_istore_n (lv' := [(2, .int (-10)), (0, .int (-(nI k))), (1, .int 0)]) hxq hb dJ6_stringSize_0f7a4_13 rfl hl (by decide) rfl (fun ls hl => ?_)
    refine lv_iconst (v := 1) hxq hb dJ6_stringSize_0f7a4_14 (by decide) ?_
    refine lv_istore_n (lv' := [(3, .int 1), (2, .int (-10)), (0, .int (-(nI k))), (1, .int 0)]) hxq hb dJ6_stringSize_0f7a4_15 rfl hl (by decide) rfl (fun ls hl => ?_)
    refine lv_iload_n hxq hb dJ6_stringSize_0f7a4_16 rfl (lv_at hl 0 rfl) ?_
    refine lv_bipush (v := 10) hxq hb dJ6_stringSize_0f7a4_17 (by decide) ?_
    refine lv_icmp_ge (tgt := 42) hxq hb dJ6_stringSize_0f7a4_19 (by decide) (fun c_3 => ?_) (fun c_3 => ?_)
    · exact absurd c_3 (by decide)
    · refine lv_iload_n hxq hb dJ6_stringSize_0f7a4_22 rfl (lv_at hl 2 rfl) ?_
      refine lv_iload_n hxq hb dJ6_stringSize_0f7a4_23 rfl (lv_at hl 1 rfl) ?_
      refine lv_icmp_le (tgt := 31) hxq hb dJ6_stringSize_0f7a4_24 (by decide) (fun c_4 => ?_) (fun c_4 => ?_)
      · have c_4' : ¬ (-10) < (-(nI k)) := Int32.not_lt.mpr c_4
        refine lv_bipush (v := 10) hxq hb dJ6_stringSize_0f7a4_31 (by decide) ?_
        refine lv_iload_n hxq hb dJ6_stringSize_0f7a4_33 rfl (lv_at hl 1 rfl) ?_
        refine lv_imul hxq hb dJ6_stringSize_0f7a4_34 ?_
        refine lv_t0 (show (10 : Int32) * (-10) = (-100) from by decide) ?_
        refine lv_istore_n (lv' := [(2, .int (-100)), (3, .int 1), (0, .int (-(nI k))), (1, .int 0)]) hxq hb dJ6_stringSize_0f7a4_35 rfl hl (by decide) rfl (fun ls hl => ?_)
        refine lv_iinc (v := 2) (lv' := [(3, .int 2), (2, .int (-100)), (0, .int (-(nI k))), (1, .int 0)]) hxq hb dJ6_stringSize_0f7a4_36 hl (k := 1) rfl (by decide) (by decide) rfl (fun ls hl => ?_)
        refine lv_goto (tgt := 16) hxq hb dJ6_stringSize_0f7a4_39 (by decide) ?_
        refine lv_iload_n hxq hb dJ6_stringSize_0f7a4_16 rfl (lv_at hl 0 rfl) ?_
        refine lv_bipush (v := 10) hxq hb dJ6_stringSize_0f7a4_17 (by decide) ?_
        refine lv_icmp_ge (tgt := 42) hxq hb dJ6_stringSize_0f7a4_19 (by decide) (fun c_5 => ?_) (fun c_5 => ?_)
        · exact absurd c_5 (by decide)
        · refine lv_iload_n hxq hb dJ6_stringSize_0f7a4_22 rfl (lv_at hl 2 rfl) ?_
          refine lv_iload_n hxq hb dJ6_stringSize_0f7a4_23 rfl (lv_at hl 1 rfl) ?_
          refine lv_icmp_le (tgt := 31) hxq hb dJ6_stringSize_0f7a4_24 (by decide) (fun c_6 => ?_) (fun c_6 => ?_)
          · exact absurd c_6 (Int32.not_le.mpr (m_gtN hk9 (show (-100 : Int32).toInt = -100 from by decide) (by omega)))
          · have c_6' : (-100) < (-(nI k)) := Int32.not_le.mp c_6
            refine lv_iload_n hxq hb dJ6_stringSize_0f7a4_27 rfl (lv_at hl 0 rfl) ?_
            refine lv_iload_n hxq hb dJ6_stringSize_0f7a4_28 rfl (lv_at hl 3 rfl) ?_
            refine lv_iadd hxq hb dJ6_stringSize_0f7a4_29 ?_
            exact ro_iret hxq hb hr hlocks (by decide) dJ6_stringSize_0f7a4_30
      · exact absurd (show -(nI k) ≤ -10 from by rw [Int32.le_iff_toInt_le, m_ng hk9, show (-10 : Int32).toInt = -10 from by decide]; omega) c_4

set_option maxRecDepth 100000 in
set_option maxHeartbeats 1000000 in
theorem c_J6_getChars_2 (l : Launch) (G : va_G) (cy : Nat → ClassId) (kS vS : Nat → Nat) (vb n : Nat) (f : Nat → Int32) (k : Nat) (hk9 : k < 1000) (hlo : 10 ≤ k) (hhi : k < 100) (hn9 : n + 2 ≤ 16) : WC l yJ6_getChars_ba4f3 wsJ6_getChars_ba4f3 { frames := 0, cells := 0, slots := 0, locals := 0 } G (PD G cy kS vS [(vb, .inl (cy 0, 16, .inl f))]) [.int (nI k), .int (nI (n + 2)), .ref vb] [(vb, .inl (cy 0, 16, .inl f))] [(vb, .inl (cy 0, 16, .inl (upd (upd f (n + 1) (nI (48 + k % 10))) n (nI (48 + k / 10)))))] (some (.int (nI n))) := by
  refine WC.ofW (cc := cJ6_getChars_ba4f3) (maxL := 7) (ret := (some .int)) (by decide) rfl (Nat.le_of_ble_eq_true rfl) ?_
  intro p e s m below meth cq S9 hr hlocks hPB hD hS ls hl
  obtain ⟨hxq, hb, hml, hown, hts⟩ := id S9
  obtain ⟨⟨⟨hP, hK⟩, hSK⟩, hDZ⟩ := hPB
  have hl : lv_has ls 7 [(0, .int (nI k)), (1, .int (nI (n + 2))), (2, .ref vb)] := hl
  obtain ⟨⟨t1, hz_t1, hv_t1⟩, t2, hz_t2, hv_t2⟩ := id hDZ
  refine lv_iload_n hxq hb dJ6_getChars_ba4f3_0 rfl (lv_at hl 1 rfl) ?_
  refine lv_istore (lv' := [(5, .int (nI (n + 2))), (0, .int (nI k)), (1, .int (nI (n + 2))), (2, .ref vb)]) hxq hb dJ6_getChars_ba4f3_1 hl (by decide) rfl (fun ls hl => ?_)
  refine lv_iload_n hxq hb dJ6_getChars_ba4f3_3 rfl (lv_at hl 1 rfl) ?_
  refine lv_if_ge (tgt := 11) hxq hb dJ6_getChars_ba4f3_4 (by decide) (fun c_1 => ?_) (fun c_1 => ?_)
  · have k_2 : 0 ≤ k := (m_leN (a := 0) (b := k) rfl rfl (by omega) (by omega)).mp c_1
    have k_2' : ¬ (k < 0) := by omega
    refine lv_iconst (v := 0) hxq hb dJ6_getChars_ba4f3_11 (by decide) ?_
    refine lv_istore (lv' := [(6, .int 0), (5, .int (nI (n + 2))), (0, .int (nI k)), (1, .int (nI (n + 2))), (2, .ref vb)]) hxq hb dJ6_getChars_ba4f3_12 hl (by decide) rfl (fun ls hl => ?_)
    refine lv_iload hxq hb dJ6_getChars_ba4f3_14 (lv_at hl 0 rfl) ?_
    refine lv_if_ne (tgt := 22) hxq hb dJ6_getChars_ba4f3_16 (by decide) (fun c_3 => ?_) (fun c_3 => ?_)
    · exact absurd c_3 (by decide)
    · refine lv_iload_n hxq hb dJ6_getChars_ba4f3_19 rfl (lv_at hl 2 rfl) ?_
      refine lv_ineg hxq hb dJ6_getChars_ba4f3_20 ?_
      refine lv_istore_n (lv' := [(0, .int (-(nI k))), (6, .int 0), (5, .int (nI (n + 2))), (1, .int (nI (n + 2))), (2, .ref vb)]) hxq hb dJ6_getChars_ba4f3_21 rfl hl (by decide) rfl (fun ls hl => ?_)
      refine lv_iload_n hxq hb dJ6_getChars_ba4f3_22 rfl (lv_at hl 0 rfl) ?_
      refine lv_bipush (v := (-100)) hxq hb dJ6_getChars_ba4f3_23 (by decide) ?_
      refine lv_icmp_gt (tgt := 72) hxq hb dJ6_getChars_ba4f3_25 (by decide) (fun c_4 => ?_) (fun c_4 => ?_)
      · have c_4' : ¬ (-(nI k)) ≤ (-100) := Int32.not_le.mpr c_4
        refine lv_aload_n hxq hb dJ6_getChars_ba4f3_72 rfl (lv_at hl 4 rfl) ?_
        refine lv_iinc (v := nI (n + 1)) (lv' := [(5, .int (nI (n + 1))), (0, .int (-(nI k))), (6, .int 0), (1, .int (nI (n + 2))), (2, .ref vb)]) hxq hb dJ6_getChars_ba4f3_73 hl (k := 2) rfl (m_dec _) (by decide) rfl (fun ls hl => ?_)
        refine lv_iload hxq hb dJ6_getChars_ba4f3_76 (lv_at hl 0 rfl) ?_
        refine va_gets hxq hb hz_t1 hS hown (hts (.fieldLink RJ6 83 "java/lang/Integer" "DigitOnes" "[B") (by decide +kernel)) (fun _ h9 => h9) dJ6_getChars_ba4f3_78 ?_
        refine lv_iload_n hxq hb dJ6_getChars_ba4f3_81 rfl (lv_at hl 1 rfl) ?_
        refine lv_ineg hxq hb dJ6_getChars_ba4f3_82 ?_
        refine lv_t0 (m_nn k) ?_
        refine va_tb hxq hb hv_t1 hS (i := nI k) (v := .int (nI (48 + k % 10))) (vp_in_nI (show k < 100 by omega) (by decide)) (by rw [nI_clamp (by omega)]; rfl) dJ6_getChars_ba4f3_83 ?_
        refine m_bast hxq hb hK hP hD hS 0 (k := n + 1) rfl rfl (by omega) (Nat.le_of_ble_eq_true rfl) (nar_b (by omega)) dJ6_getChars_ba4f3_84 (fun H locs hP hD hS => ?_)
        have hP : va_P G vwCl [(vb, .inl (cy 0, 16, .inl (upd f (n + 1) (nI (48 + k % 10)))))] H := hP
        have hD : va_D (wA [(vb, .inl (cy 0, 16, .inl f))]) [(vb, .inl (cy 0, 16, .inl (upd f (n + 1) (nI (48 + k % 10)))))] := hD
        refine lv_iload_n hxq hb dJ6_getChars_ba4f3_85 rfl (lv_at hl 1 rfl) ?_
        refine lv_bipush (v := (-9)) hxq hb dJ6_getChars_ba4f3_86 (by decide) ?_
        refine lv_icmp_ge (tgt := 104) hxq hb dJ6_getChars_ba4f3_88 (by decide) (fun c_5 => ?_) (fun c_5 => ?_)
        · exact absurd c_5 (Int32.not_le.mpr (by rw [Int32.lt_iff_toInt_lt, m_ng hk9, show (-9 : Int32).toInt = -9 from by decide]; omega))
        · have c_5' : (-(nI k)) < (-9) := Int32.not_le.mp c_5
          refine lv_aload_n hxq hb dJ6_getChars_ba4f3_91 rfl (lv_at hl 4 rfl) ?_
          refine lv_iinc (v := nI n) (lv' := [(5, .int (nI n)), (0, .int (-(nI k))), (6, .int 0), (1, .int (nI (n + 2))), (2, .ref vb)]) hxq hb dJ6_getChars_ba4f3_92 hl (k := 0) rfl (m_dec _) (by decide) rfl (fun ls hl => ?_)
          refine lv_iload hxq hb dJ6_getChars_ba4f3_95 (lv_at hl 0 rfl) ?_
          refine va_gets hxq hb hz_t2 hS hown (hts (.fieldLink RJ6 87 "java/lang/Integer" "DigitTens" "[B") (by decide +kernel)) (fun _ h9 => h9) dJ6_getChars_ba4f3_97 ?_
          refine lv_iload_n hxq hb dJ6_getChars_ba4f3_100 rfl (lv_at hl 1 rfl) ?_
          refine lv_ineg hxq hb dJ6_getChars_ba4f3_101 ?_
          refine lv_t0 (m_nn k) ?_
          refine va_tb hxq hb hv_t2 hS (i := nI k) (v := .int (nI (48 + k / 10))) (vp_in_nI (show k < 100 by omega) (by decide)) (by rw [nI_clamp (by omega)]; rfl) dJ6_getChars_ba4f3_102 ?_
          refine m_bast hxq hb hK hP hD hS 0 (k := n) rfl rfl (by omega) (Nat.le_of_ble_eq_true rfl) (nar_b (by omega)) dJ6_getChars_ba4f3_103 (fun H locs hP hD hS => ?_)
          have hP : va_P G vwCl [(vb, .inl (cy 0, 16, .inl (upd (upd f (n + 1) (nI (48 + k % 10))) n (nI (48 + k / 10)))))] H := hP
          have hD : va_D (wA [(vb, .inl (cy 0, 16, .inl f))]) [(vb, .inl (cy 0, 16, .inl (upd (upd f (n + 1) (nI (48 + k % 10))) n (nI (48 + k / 10)))))] := hD
          refine lv_iload hxq hb dJ6_getChars_ba4f3_104 (lv_at hl 2 rfl) ?_
          refine lv_if_eq (tgt := 118) hxq hb dJ6_getChars_ba4f3_106 (by decide) (fun c_6 => ?_) (fun c_6 => ?_)
          · refine lv_iload hxq hb dJ6_getChars_ba4f3_118 (lv_at hl 0 rfl) ?_
            exact wc_iret hxq hb hr hlocks hP hS rfl dJ6_getChars_ba4f3_120
          · exact absurd c_6 (by decide)
      · exact absurd (show (-100 : Int32) < -(nI k) from m_gtN (by omega) (show (-100 : Int32).toInt = -100 from by decide) (by omega)) c_4
  · exact absurd (by rw [Int32.le_iff_toInt_le, nI_toInt (by omega), Int32.toInt_zero]; omega) c_1

set_option maxRecDepth 100000 in
set_option maxHeartbeats 1000000 in
theorem c_J5_append_c97b9_2 (l : Launch) (G : va_G) (cy : Nat → ClassId) (kS vS : Nat → Nat) (sb vb n : Nat) (ml : Int32) (f : Nat → Int32) (k : Nat) (hk9 : k < 1000) (hlo : 10 ≤ k) (hhi : k < 100) (hn9 : n + 2 ≤ 16) : WC l yJ5_append_c97b9 wsJ5_append_c97b9 { frames := 1, cells := 0, slots := 0, locals := 26 } G (PD G cy kS vS [(sb, .inr (1, [.ref vb, .int 0, .int ml, .int (nI n)])), (vb, .inl (cy 0, 16, .inl f))]) [.ref sb, .int (nI k)] [(sb, .inr (1, [.ref vb, .int 0, .int ml, .int (nI n)])), (vb, .inl (cy 0, 16, .inl f))] [(sb, .inr (1, [.ref vb, .int 0, .int ml, .int (nI (n + 2))])), (vb, .inl (cy 0, 16, .inl (upd (upd f (n + 1) (nI (48 + k % 10))) n (nI (48 + k / 10)))))] (some (.ref sb)) := by
  refine WC.ofW (cc := cJ5_append_c97b9) (maxL := 4) (ret := (some (.object "java/lang/AbstractStringBuilder"))) (by decide) rfl (Nat.le_of_ble_eq_true rfl) ?_
  intro p e s m below meth cq S9 hr hlocks hPB hD hS ls hl
  obtain ⟨hxq, hb, hml, hown, hts⟩ := id S9
  obtain ⟨⟨⟨hP, hK⟩, hSK⟩, hDZ⟩ := hPB
  have hl : lv_has ls 4 [(0, .ref sb), (1, .int (nI k))] := hl
  have hi1 : ∀ w ∈ wsJ40, w ∈ wsJ5_append_c97b9 := by decide +kernel
  have hf15 := hts (.fieldLink RJ5 15 "java/lang/AbstractStringBuilder" "value" "[B") (by decide +kernel)
  have hf79 := hts (.fieldLink RJ5 79 "java/lang/AbstractStringBuilder" "count" "I") (by decide +kernel)
  refine lv_aload_n hxq hb dJ5_append_c97b9_0 rfl (lv_at hl 0 rfl) ?_
  refine va_get (D := G) (ci := 1) (v := .int (nI n)) (C := RJ4) (T := TJ4) (N := 4) hxq hb hts hi1 hown hK.1 hP 0 rfl rfl 3 (by decide) hf79 (fun _ h9 => h9) rfl dJ5_append_c97b9_1 ?_
  refine lv_istore_n (lv' := [(2, .int (nI n)), (0, .ref sb), (1, .int (nI k))]) hxq hb dJ5_append_c97b9_4 rfl hl (by decide) rfl (fun ls hl => ?_)
  refine lv_iload_n hxq hb dJ5_append_c97b9_5 rfl (lv_at hl 0 rfl) ?_
  refine lv_iload_n hxq hb dJ5_append_c97b9_6 rfl (lv_at hl 2 rfl) ?_
  refine c_roSi S9 (c_J6_stringSize_2 l G cy k hk9 hlo hhi) (va_cwS 1 hts gJ5_append_c97b9_J6_stringSize_0f7a4 rfl rfl rfl (by decide +kernel) ⟨Nat.le_of_ble_eq_true rfl, Nat.le_of_ble_eq_true rfl⟩) PB.blind (PB.at hK (m_Ppart hP [] rfl)) rfl hl.1 rfl (Nat.le_of_ble_eq_true rfl) ⟨Nat.zero_le _, Nat.zero_le _⟩ dJ5_append_c97b9_7 ?_
  refine lv_iadd hxq hb dJ5_append_c97b9_10 ?_
  refine lv_istore_n (lv' := [(3, .int ((nI n) + 2)), (2, .int (nI n)), (0, .ref sb), (1, .int (nI k))]) hxq hb dJ5_append_c97b9_11 rfl hl (by decide) rfl (fun ls hl => ?_)
  refine lv_aload_n hxq hb dJ5_append_c97b9_12 rfl (lv_at hl 2 rfl) ?_
  refine lv_iload_n hxq hb dJ5_append_c97b9_13 rfl (lv_at hl 0 rfl) ?_
  refine lv_t0 (show (nI n) + 2 = nI (n + 2) from (m_add rfl rfl)) ?_
  refine c_roUv S9 (c_J5_ensureCapacityInternal_d00df l G cy kS vS sb vb n ml f (n + 2) (by omega)) (va_cwU 1 hts gJ5_append_c97b9_J5_ensureCapacityInternal_d00df_u100J4 rfl rfl rfl rfl (by decide +kernel) ⟨Nat.le_of_ble_eq_true rfl, Nat.le_of_ble_eq_true rfl⟩) PD.blind (va_recv hK.1 hP (ci := 1) (q0 := 0) rfl rfl) (PD.at hDZ hSK hS (wA_sub hD [0, 1] rfl) hK (m_Ppart hP [0, 1] rfl)) rfl hl.1 rfl (Nat.le_of_ble_eq_true rfl) ⟨Nat.zero_le _, Nat.zero_le _⟩ dJ5_append_c97b9_14 ?_
  refine lv_aload_n hxq hb dJ5_append_c97b9_17 rfl (lv_at hl 2 rfl) ?_
  refine c_roUi S9 (c_J5_isLatin1_aae02 l G cy kS vS sb vb n ml f) (va_cwU 0 hts gJ5_append_c97b9_J5_isLatin1_aae02_u83J4 rfl rfl rfl rfl (by decide +kernel) ⟨Nat.le_of_ble_eq_true rfl, Nat.le_of_ble_eq_true rfl⟩) PD.blind (va_recv hK.1 hP (ci := 1) (q0 := 0) rfl rfl) (PD.at hDZ hSK hS (wA_sub hD [0, 1] rfl) hK (m_Ppart hP [0, 1] rfl)) rfl hl.1 rfl (Nat.le_of_ble_eq_true rfl) ⟨Nat.zero_le _, Nat.zero_le _⟩ dJ5_append_c97b9_18 ?_
  refine lv_if_eq (tgt := 37) hxq hb dJ5_append_c97b9_21 (by decide) (fun c_1 => ?_) (fun c_1 => ?_)
  · exact absurd c_1 (by decide)
  · refine lv_iload_n hxq hb dJ5_append_c97b9_24 rfl (lv_at hl 3 rfl) ?_
    refine lv_iload_n hxq hb dJ5_append_c97b9_25 rfl (lv_at hl 0 rfl) ?_
    refine lv_aload_n hxq hb dJ5_append_c97b9_26 rfl (lv_at hl 2 rfl) ?_
    refine va_get (D := G) (ci := 1) (v := .ref vb) (C := RJ4) (T := TJ4) (N := 4) hxq hb hts hi1 hown hK.1 hP 0 rfl rfl 0 (by decide) hf15 (fun _ h9 => h9) rfl dJ5_append_c97b9_27 ?_
    refine lv_t1 (show (nI n) + 2 = nI (n + 2) from (m_add rfl rfl)) ?_
    refine c_wcSi (ws' := [(sb, .inr (1, [.ref vb, .int 0, .int ml, .int (nI n)])), (vb, .inl (cy 0, 16, .inl (upd (upd f (n + 1) (nI (48 + k % 10))) n (nI (48 + k / 10)))))]) S9 (c_J6_getChars_2 l G cy kS vS vb n f k hk9 hlo hhi (by omega)) (va_cwS 3 hts gJ5_append_c97b9_J6_getChars_ba4f3 rfl rfl rfl (by decide +kernel) ⟨Nat.le_of_ble_eq_true rfl, Nat.le_of_ble_eq_true rfl⟩) PD.blind (PD.at hDZ hSK hS (wA_sub hD [1] rfl) hK (m_Ppart hP [1] rfl)) hP hD hS [1] rfl rfl rfl rfl rfl hl.1 rfl (Nat.le_of_ble_eq_true rfl) ⟨Nat.zero_le _, Nat.zero_le _⟩ dJ5_append_c97b9_30 (fun H locs hP hD hS => ?_)
    refine lv_pop hxq hb dJ5_append_c97b9_33 rfl ?_
    refine lv_goto (tgt := 48) hxq hb dJ5_append_c97b9_34 (by decide) ?_
    refine lv_aload_n hxq hb dJ5_append_c97b9_48 rfl (lv_at hl 2 rfl) ?_
    refine lv_iload_n hxq hb dJ5_append_c97b9_49 rfl (lv_at hl 0 rfl) ?_
    refine lv_t0 (show (nI n) + 2 = nI (n + 2) from (m_add rfl rfl)) ?_
    refine va_put (D := G) (ci := 1) (v := .int (nI (n + 2))) (ty := .int) (C := RJ4) (T := TJ4) (N := 4) hxq hb hts hi1 tyJ4 tyJ4_ok nmJ4 hown hK.1 hP hD hS 0 rfl rfl 3 (by decide) hf79 (fun _ h9 => h9) rfl (by decide +kernel) rfl rfl (Nat.le_of_ble_eq_true rfl) dJ5_append_c97b9_50 (fun H locs hP hD hS => ?_)
    have hP : va_P G vwCl [(sb, .inr (1, [.ref vb, .int 0, .int ml, .int (nI (n + 2))])), (vb, .inl (cy 0, 16, .inl (upd (upd f (n + 1) (nI (48 + k % 10))) n (nI (48 + k / 10)))))] H := hP
    have hD : va_D (wA [(sb, .inr (1, [.ref vb, .int 0, .int ml, .int (nI n)])), (vb, .inl (cy 0, 16, .inl f))]) [(sb, .inr (1, [.ref vb, .int 0, .int ml, .int (nI (n + 2))])), (vb, .inl (cy 0, 16, .inl (upd (upd f (n + 1) (nI (48 + k % 10))) n (nI (48 + k / 10)))))] := hD
    refine lv_aload_n hxq hb dJ5_append_c97b9_53 rfl (lv_at hl 2 rfl) ?_
    exact wc_aret hxq hb hr hlocks (Or.inl ⟨_, rfl⟩) hP hS dJ5_append_c97b9_54

set_option maxRecDepth 100000 in
set_option maxHeartbeats 1000000 in
theorem c_J4_append_bf812_2 (l : Launch) (G : va_G) (cy : Nat → ClassId) (kS vS : Nat → Nat) (sb vb n : Nat) (ml : Int32) (f : Nat → Int32) (k : Nat) (hk9 : k < 1000) (hlo : 10 ≤ k) (hhi : k < 100) (hn9 : n + 2 ≤ 16) : WC l yJ4_append_bf812 wsJ4_append_bf812 { frames := 2, cells := 0, slots := 0, locals := 49 } G (PD G cy kS vS [(sb, .inr (1, [.ref vb, .int 0, .int ml, .int (nI n)])), (vb, .inl (cy 0, 16, .inl f))]) [.ref sb, .int (nI k)] [(sb, .inr (1, [.ref vb, .int 0, .int ml, .int (nI n)])), (vb, .inl (cy 0, 16, .inl f))] [(sb, .inr (1, [.ref vb, .int 0, .int ml, .int (nI (n + 2))])), (vb, .inl (cy 0, 16, .inl (upd (upd f (n + 1) (nI (48 + k % 10))) n (nI (48 + k / 10)))))] (some (.ref sb)) := by
  refine WC.ofW (cc := cJ4_append_bf812) (maxL := 2) (ret := (some (.object "java/lang/StringBuilder"))) (by decide) rfl (Nat.le_of_ble_eq_true rfl) ?_
  intro p e s m below meth cq S9 hr hlocks hPB hD hS ls hl
  obtain ⟨hxq, hb, hml, hown, hts⟩ := id S9
  obtain ⟨⟨⟨hP, hK⟩, hSK⟩, hDZ⟩ := hPB
  have hl : lv_has ls 2 [(0, .ref sb), (1, .int (nI k))] := hl
  refine lv_aload_n hxq hb dJ4_append_bf812_0 rfl (lv_at hl 0 rfl) ?_
  refine lv_iload_n hxq hb dJ4_append_bf812_1 rfl (lv_at hl 1 rfl) ?_
  refine c_wcSUr (ws' := [(sb, .inr (1, [.ref vb, .int 0, .int ml, .int (nI (n + 2))])), (vb, .inl (cy 0, 16, .inl (upd (upd f (n + 1) (nI (48 + k % 10))) n (nI (48 + k / 10)))))]) (hK.1.1 1 _ rfl).2 S9 (c_J5_append_c97b9_2 l G cy kS vS sb vb n ml f k hk9 hlo hhi (by omega)) (va_cwSU 1 hts gJ4_append_bf812_J5_append_c97b9_s53 rfl rfl rfl (by decide +kernel) ⟨Nat.le_of_ble_eq_true rfl, Nat.le_of_ble_eq_true rfl⟩) PD.blind (va_recv hK.1 hP (ci := 1) (q0 := 0) rfl rfl) (PD.at hDZ hSK hS (wA_sub hD [0, 1] rfl) hK (m_Ppart hP [0, 1] rfl)) hP hD hS [0, 1] rfl rfl rfl rfl rfl hl.1 rfl (Nat.le_of_ble_eq_true rfl) ⟨Nat.zero_le _, Nat.zero_le _⟩ dJ4_append_bf812_2 (fun H locs hP hD hS => ?_)
  refine lv_pop hxq hb dJ4_append_bf812_5 rfl ?_
  refine lv_aload_n hxq hb dJ4_append_bf812_6 rfl (lv_at hl 0 rfl) ?_
  exact wc_aret hxq hb hr hlocks (Or.inl ⟨_, rfl⟩) hP hS dJ4_append_bf812_7

set_option maxRecDepth 100000 in
set_option maxHeartbeats 1000000 in
theorem c_J6_stringSize_3 (l : Launch) (G : va_G) (cy : Nat → ClassId) (k : Nat) (hk9 : k < 1000) (hlo : 100 ≤ k) (hhi : k < 1000) : RO l yJ6_stringSize_0f7a4 wsJ6_stringSize_0f7a4 { frames := 0, cells := 0, slots := 0, locals := 0 } (PB G cy []) [.int (nI k)] (some (.int 3)) := by
  refine RO.ofW (cc := cJ6_stringSize_0f7a4) (maxL := 4) (ret := (some .int)) (by decide) rfl (Nat.le_of_ble_eq_true rfl) ?_
  intro p e s m below meth cq S9 hr hlocks hPB ls hl
  obtain ⟨hxq, hb, hml, hown, hts⟩ := id S9
  obtain ⟨hP, hK⟩ := hPB
  have hl : lv_has ls 4 [(0, .int (nI k))] := hl
  refine lv_iconst (v := 1) hxq hb dJ6_stringSize_0f7a4_0 (by decide) ?_
  refine lv_istore_n (lv' := [(1, .int 1), (0, .int (nI k))]) hxq hb dJ6_stringSize_0f7a4_1 rfl hl (by decide) rfl (fun ls hl => ?_)
  refine lv_iload_n hxq hb dJ6_stringSize_0f7a4_2 rfl (lv_at hl 1 rfl) ?_
  refine lv_if_lt (tgt := 11) hxq hb dJ6_stringSize_0f7a4_3 (by decide) (fun c_1 => ?_) (fun c_1 => ?_)
  · exact absurd c_1 (by rw [Int32.not_lt, Int32.le_iff_toInt_le, nI_toInt (by omega), Int32.toInt_zero]; omega)
  · have k_2 : ¬ (k < 0) := fun z => c_1 ((m_ltN (a := k) (b := 0) rfl rfl (by omega) (by omega)).mpr z)
    have k_2' : 0 ≤ k := by omega
    refine lv_iconst (v := 0) hxq hb dJ6_stringSize_0f7a4_6 (by decide) ?_
    refine lv_istore_n (lv' := [(1, .int 0), (0, .int (nI k))]) hxq hb dJ6_stringSize_0f7a4_7 rfl hl (by decide) rfl (fun ls hl => ?_)
    refine lv_iload_n hxq hb dJ6_stringSize_0f7a4_8 rfl (lv_at hl 1 rfl) ?_
    refine lv_ineg hxq hb dJ6_stringSize_0f7a4_9 ?_
    refine lv_istore_n (lv' := [(0, .int (-(nI k))), (1, .int 0)]) hxq hb dJ6_stringSize_0f7a4_10 rfl hl (by decide) rfl (fun ls hl => ?_)
    refine lv_bipush (v := (-10)) hxq hb dJ6_stringSize_0f7a4_11 (by decide) ?_
    refine lv_istore_n (lv' := [(2, .int (-10)), (0, .int (-(nI k))), (1, .int 0)]) hxq hb dJ6_stringSize_0f7a4_13 rfl hl (by decide) rfl (fun ls hl => ?_)
    refine lv_iconst (v := 1) hxq hb dJ6_stringSize_0f7a4_14 (by decide) ?_
    refine lv_istore_n (lv' := [(3, .int 1), (2, .int (-10)), (0, .int (-(nI k))), (1, .int 0)]) hxq hb dJ6_stringSize_0f7a4_15 rfl hl (by decide) rfl (fun ls hl => ?_)
    refine lv_iload_n hxq hb dJ6_stringSize_0f7a4_16 rfl (lv_at hl 0 rfl) ?_
    refine lv_bipush (v := 10) hxq hb dJ6_stringSize_0f7a4_17 (by decide) ?_
    refine lv_icmp_ge (tgt := 42) hxq hb dJ6_stringSize_0f7a4_19 (by decide) (fun c_3 => ?_) (fun c_3 => ?_)
    · exact absurd c_3 (by decide)
    · refine lv_iload_n hxq hb dJ6_stringSize_0f7a4_22 rfl (lv_at hl 2 rfl) ?_
      refine lv_iload_n hxq hb dJ6_stringSize_0f7a4_23 rfl (lv_at hl 1 rfl) ?_
      refine lv_icmp_le (tgt := 31) hxq hb dJ6_stringSize_0f7a4_24 (by decide) (fun c_4 => ?_) (fun c_4 => ?_)
      · have c_4' : ¬ (-10) < (-(nI k)) := Int32.not_lt.mpr c_4
        refine lv_bipush (v := 10) hxq hb dJ6_stringSize_0f7a4_31 (by decide) ?_
        refine lv_iload_n hxq hb dJ6_stringSize_0f7a4_33 rfl (lv_at hl 1 rfl) ?_
        refine lv_imul hxq hb dJ6_stringSize_0f7a4_34 ?_
        refine lv_t0 (show (10 : Int32) * (-10) = (-100) from by decide) ?_
        refine lv_istore_n (lv' := [(2, .int (-100)), (3, .int 1), (0, .int (-(nI k))), (1, .int 0)]) hxq hb dJ6_stringSize_0f7a4_35 rfl hl (by decide) rfl (fun ls hl => ?_)
        refine lv_iinc (v := 2) (lv' := [(3, .int 2), (2, .int (-100)), (0, .int (-(nI k))), (1, .int 0)]) hxq hb dJ6_stringSize_0f7a4_36 hl (k := 1) rfl (by decide) (by decide) rfl (fun ls hl => ?_)
        refine lv_goto (tgt := 16) hxq hb dJ6_stringSize_0f7a4_39 (by decide) ?_
        refine lv_iload_n hxq hb dJ6_stringSize_0f7a4_16 rfl (lv_at hl 0 rfl) ?_
        refine lv_bipush (v := 10) hxq hb dJ6_stringSize_0f7a4_17 (by decide) ?_
        refine lv_icmp_ge (tgt := 42) hxq hb dJ6_stringSize_0f7a4_19 (by decide) (fun c_5 => ?_) (fun c_5 => ?_)
        · exact absurd c_5 (by decide)
        · refine lv_iload_n hxq hb dJ6_stringSize_0f7a4_22 rfl (lv_at hl 2 rfl) ?_
          refine lv_iload_n hxq hb dJ6_stringSize_0f7a4_23 rfl (lv_at hl 1 rfl) ?_
          refine lv_icmp_le (tgt := 31) hxq hb dJ6_stringSize_0f7a4_24 (by decide) (fun c_6 => ?_) (fun c_6 => ?_)
          · have c_6' : ¬ (-100) < (-(nI k)) := Int32.not_lt.mpr c_6
            refine lv_bipush (v := 10) hxq hb dJ6_stringSize_0f7a4_31 (by decide) ?_
            refine lv_iload_n hxq hb dJ6_stringSize_0f7a4_33 rfl (lv_at hl 1 rfl) ?_
            refine lv_imul hxq hb dJ6_stringSize_0f7a4_34 ?_
            refine lv_t0 (show (10 : Int32) * (-100) = (-1000) from by decide) ?_
            refine lv_istore_n (lv' := [(2, .int (-1000)), (3, .int 2), (0, .int (-(nI k))), (1, .int 0)]) hxq hb dJ6_stringSize_0f7a4_35 rfl hl (by decide) rfl (fun ls hl => ?_)
            refine lv_iinc (v := 3) (lv' := [(3, .int 3), (2, .int (-1000)), (0, .int (-(nI k))), (1, .int 0)]) hxq hb dJ6_stringSize_0f7a4_36 hl (k := 1) rfl (by decide) (by decide) rfl (fun ls hl => ?_)
            refine lv_goto (tgt := 16) hxq hb dJ6_stringSize_0f7a4_39 (by decide) ?_
            refine lv_iload_n hxq hb dJ6_stringSize_0f7a4_16 rfl (lv_at hl 0 rfl) ?_
            refine lv_bipush (v := 10) hxq hb dJ6_stringSize_0f7a4_17 (by decide) ?_
            refine lv_icmp_ge (tgt := 42) hxq hb dJ6_stringSize_0f7a4_19 (by decide) (fun c_7 => ?_) (fun c_7 => ?_)
            · exact absurd c_7 (by decide)
            · refine lv_iload_n hxq hb dJ6_stringSize_0f7a4_22 rfl (lv_at hl 2 rfl) ?_
              refine lv_iload_n hxq hb dJ6_stringSize_0f7a4_23 rfl (lv_at hl 1 rfl) ?_
              refine lv_icmp_le (tgt := 31) hxq hb dJ6_stringSize_0f7a4_24 (by decide) (fun c_8 => ?_) (fun c_8 => ?_)
              · exact absurd c_8 (Int32.not_le.mpr (m_gtN hk9 (show (-1000 : Int32).toInt = -1000 from by decide) (by omega)))
              · have c_8' : (-1000) < (-(nI k)) := Int32.not_le.mp c_8
                refine lv_iload_n hxq hb dJ6_stringSize_0f7a4_27 rfl (lv_at hl 0 rfl) ?_
                refine lv_iload_n hxq hb dJ6_stringSize_0f7a4_28 rfl (lv_at hl 3 rfl) ?_
                refine lv_iadd hxq hb dJ6_stringSize_0f7a4_29 ?_
                exact ro_iret hxq hb hr hlocks (by decide) dJ6_stringSize_0f7a4_30
          · exact absurd (show -(nI k) ≤ -100 from by rw [Int32.le_iff_toInt_le, m_ng hk9, show (-100 : Int32).toInt = -100 from by decide]; omega) c_6
      · exact absurd (show -(nI k) ≤ -10 from by rw [Int32.le_iff_toInt_le, m_ng hk9, show (-10 : Int32).toInt = -10 from by decide]; omega) c_4

set_option maxRecDepth 100000 in
set_option maxHeartbeats 1000000 in
theorem c_J6_getChars_3 (l : Launch) (G : va_G) (cy : Nat → ClassId) (kS vS : Nat → Nat) (vb n : Nat) (f : Nat → Int32) (k : Nat) (hk9 : k < 1000) (hlo : 100 ≤ k) (hhi : k < 1000) (hn9 : n + 3 ≤ 16) : WC l yJ6_getChars_ba4f3 wsJ6_getChars_ba4f3 { frames := 0, cells := 0, slots := 0, locals := 0 } G (PD G cy kS vS [(vb, .inl (cy 0, 16, .inl f))]) [.int (nI k), .int (nI (n + 3)), .ref vb] [(vb, .inl (cy 0, 16, .inl f))] [(vb, .inl (cy 0, 16, .inl (upd (upd (upd f (n + 2) (nI (48 + k % 100 % 10))) (n + 1) (nI (48 + k % 100 / 10))) n (nI (48 + k / 100 % 10)))))] (some (.int (nI n))) := by
  refine WC.ofW (cc := cJ6_getChars_ba4f3) (maxL := 7) (ret := (some .int)) (by decide) rfl (Nat.le_of_ble_eq_true rfl) ?_
  intro p e s m below meth cq S9 hr hlocks hPB hD hS ls hl
  obtain ⟨hxq, hb, hml, hown, hts⟩ := id S9
  obtain ⟨⟨⟨hP, hK⟩, hSK⟩, hDZ⟩ := hPB
  have hl : lv_has ls 7 [(0, .int (nI k)), (1, .int (nI (n + 3))), (2, .ref vb)] := hl
  obtain ⟨⟨t1, hz_t1, hv_t1⟩, t2, hz_t2, hv_t2⟩ := id hDZ
  refine lv_iload_n hxq hb dJ6_getChars_ba4f3_0 rfl (lv_at hl 1 rfl) ?_
  refine lv_istore (lv' := [(5, .int (nI (n + 3))), (0, .int (nI k)), (1, .int (nI (n + 3))), (2, .ref vb)]) hxq hb dJ6_getChars_ba4f3_1 hl (by decide) rfl (fun ls hl => ?_)
  refine lv_iload_n hxq hb dJ6_getChars_ba4f3_3 rfl (lv_at hl 1 rfl) ?_
  refine lv_if_ge (tgt := 11) hxq hb dJ6_getChars_ba4f3_4 (by decide) (fun c_1 => ?_) (fun c_1 => ?_)
  · have k_2 : 0 ≤ k := (m_leN (a := 0) (b := k) rfl rfl (by omega) (by omega)).mp c_1
    have k_2' : ¬ (k < 0) := by omega
    refine lv_iconst (v := 0) hxq hb dJ6_getChars_ba4f3_11 (by decide) ?_
    refine lv_istore (lv' := [(6, .int 0), (5, .int (nI (n + 3))), (0, .int (nI k)), (1, .int (nI (n + 3))), (2, .ref vb)]) hxq hb dJ6_getChars_ba4f3_12 hl (by decide) rfl (fun ls hl => ?_)
    refine lv_iload hxq hb dJ6_getChars_ba4f3_14 (lv_at hl 0 rfl) ?_
    refine lv_if_ne (tgt := 22) hxq hb dJ6_getChars_ba4f3_16 (by decide) (fun c_3 => ?_) (fun c_3 => ?_)
    · exact absurd c_3 (by decide)
    · refine lv_iload_n hxq hb dJ6_getChars_ba4f3_19 rfl (lv_at hl 2 rfl) ?_
      refine lv_ineg hxq hb dJ6_getChars_ba4f3_20 ?_
      refine lv_istore_n (lv' := [(0, .int (-(nI k))), (6, .int 0), (5, .int (nI (n + 3))), (1, .int (nI (n + 3))), (2, .ref vb)]) hxq hb dJ6_getChars_ba4f3_21 rfl hl (by decide) rfl (fun ls hl => ?_)
      refine lv_iload_n hxq hb dJ6_getChars_ba4f3_22 rfl (lv_at hl 0 rfl) ?_
      refine lv_bipush (v := (-100)) hxq hb dJ6_getChars_ba4f3_23 (by decide) ?_
      refine lv_icmp_gt (tgt := 72) hxq hb dJ6_getChars_ba4f3_25 (by decide) (fun c_4 => ?_) (fun c_4 => ?_)
      · exact absurd c_4 (Int32.not_lt.mpr (by rw [Int32.le_iff_toInt_le, m_ng hk9]; rw [show (-100 : Int32).toInt = -100 from by decide]; omega))
      · have c_4' : (-(nI k)) ≤ (-100) := Int32.not_lt.mp c_4
        refine lv_iload_n hxq hb dJ6_getChars_ba4f3_28 rfl (lv_at hl 0 rfl) ?_
        refine lv_bipush (v := 100) hxq hb dJ6_getChars_ba4f3_29 (by decide) ?_
        refine lv_idiv hxq hb dJ6_getChars_ba4f3_31 (by decide) ?_
        refine lv_t0 (m_div100 hk9) ?_
        refine lv_istore_n (lv' := [(3, .int (-(nI (k / 100)))), (0, .int (-(nI k))), (6, .int 0), (5, .int (nI (n + 3))), (1, .int (nI (n + 3))), (2, .ref vb)]) hxq hb dJ6_getChars_ba4f3_32 rfl hl (by decide) rfl (fun ls hl => ?_)
        refine lv_iload_n hxq hb dJ6_getChars_ba4f3_33 rfl (lv_at hl 0 rfl) ?_
        refine lv_bipush (v := 100) hxq hb dJ6_getChars_ba4f3_34 (by decide) ?_
        refine lv_imul hxq hb dJ6_getChars_ba4f3_36 ?_
        refine lv_iload_n hxq hb dJ6_getChars_ba4f3_37 rfl (lv_at hl 1 rfl) ?_
        refine lv_isub hxq hb dJ6_getChars_ba4f3_38 ?_
        refine lv_t0 (m_rem100 hk9) ?_
        refine lv_istore (lv' := [(4, .int (nI (k % 100))), (3, .int (-(nI (k / 100)))), (0, .int (-(nI k))), (6, .int 0), (5, .int (nI (n + 3))), (1, .int (nI (n + 3))), (2, .ref vb)]) hxq hb dJ6_getChars_ba4f3_39 hl (by decide) rfl (fun ls hl => ?_)
        refine lv_iload_n hxq hb dJ6_getChars_ba4f3_41 rfl (lv_at hl 1 rfl) ?_
        refine lv_istore_n (lv' := [(0, .int (-(nI (k / 100)))), (4, .int (nI (k % 100))), (3, .int (-(nI (k / 100)))), (6, .int 0), (5, .int (nI (n + 3))), (1, .int (nI (n + 3))), (2, .ref vb)]) hxq hb dJ6_getChars_ba4f3_42 rfl hl (by decide) rfl (fun ls hl => ?_)
        refine lv_aload_n hxq hb dJ6_getChars_ba4f3_43 rfl (lv_at hl 6 rfl) ?_
        refine lv_iinc (v := nI (n + 2)) (lv' := [(5, .int (nI (n + 2))), (0, .int (-(nI (k / 100)))), (4, .int (nI (k % 100))), (3, .int (-(nI (k / 100)))), (6, .int 0), (1, .int (nI (n + 3))), (2, .ref vb)]) hxq hb dJ6_getChars_ba4f3_44 hl (k := 4) rfl (m_dec _) (by decide) rfl (fun ls hl => ?_)
        refine lv_iload hxq hb dJ6_getChars_ba4f3_47 (lv_at hl 0 rfl) ?_
        refine va_gets hxq hb hz_t1 hS hown (hts (.fieldLink RJ6 83 "java/lang/Integer" "DigitOnes" "[B") (by decide +kernel)) (fun _ h9 => h9) dJ6_getChars_ba4f3_49 ?_
        refine lv_iload hxq hb dJ6_getChars_ba4f3_52 (lv_at hl 2 rfl) ?_
        refine va_tb hxq hb hv_t1 hS (i := nI (k % 100)) (v := .int (nI (48 + (k % 100) % 10))) (vp_in_nI (show (k % 100) < 100 by omega) (by decide)) (by rw [nI_clamp (by omega)]; rfl) dJ6_getChars_ba4f3_54 ?_
        refine m_bast hxq hb hK hP hD hS 0 (k := n + 2) rfl rfl (by omega) (Nat.le_of_ble_eq_true rfl) (nar_b (by omega)) dJ6_getChars_ba4f3_55 (fun H locs hP hD hS => ?_)
        have hP : va_P G vwCl [(vb, .inl (cy 0, 16, .inl (upd f (n + 2) (nI (48 + (k % 100) % 10)))))] H := hP
        have hD : va_D (wA [(vb, .inl (cy 0, 16, .inl f))]) [(vb, .inl (cy 0, 16, .inl (upd f (n + 2) (nI (48 + (k % 100) % 10)))))] := hD
        refine lv_aload_n hxq hb dJ6_getChars_ba4f3_56 rfl (lv_at hl 6 rfl) ?_
        refine lv_iinc (v := nI (n + 1)) (lv' := [(5, .int (nI (n + 1))), (0, .int (-(nI (k / 100)))), (4, .int (nI (k % 100))), (3, .int (-(nI (k / 100)))), (6, .int 0), (1, .int (nI (n + 3))), (2, .ref vb)]) hxq hb dJ6_getChars_ba4f3_57 hl (k := 0) rfl (m_dec _) (by decide) rfl (fun ls hl => ?_)
        refine lv_iload hxq hb dJ6_getChars_ba4f3_60 (lv_at hl 0 rfl) ?_
        refine va_gets hxq hb hz_t2 hS hown (hts (.fieldLink RJ6 87 "java/lang/Integer" "DigitTens" "[B") (by decide +kernel)) (fun _ h9 => h9) dJ6_getChars_ba4f3_62 ?_
        refine lv_iload hxq hb dJ6_getChars_ba4f3_65 (lv_at hl 2 rfl) ?_
        refine va_tb hxq hb hv_t2 hS (i := nI (k % 100)) (v := .int (nI (48 + (k % 100) / 10))) (vp_in_nI (show (k % 100) < 100 by omega) (by decide)) (by rw [nI_clamp (by omega)]; rfl) dJ6_getChars_ba4f3_67 ?_
        refine m_bast hxq hb hK hP hD hS 0 (k := n + 1) rfl rfl (by omega) (Nat.le_of_ble_eq_true rfl) (nar_b (by omega)) dJ6_getChars_ba4f3_68 (fun H locs hP hD hS => ?_)
        have hP : va_P G vwCl [(vb, .inl (cy 0, 16, .inl (upd (upd f (n + 2) (nI (48 + (k % 100) % 10))) (n + 1) (nI (48 + (k % 100) / 10)))))] H := hP
        have hD : va_D (wA [(vb, .inl (cy 0, 16, .inl f))]) [(vb, .inl (cy 0, 16, .inl (upd (upd f (n + 2) (nI (48 + (k % 100) % 10))) (n + 1) (nI (48 + (k % 100) / 10)))))] := hD
        refine lv_goto (tgt := 22) hxq hb dJ6_getChars_ba4f3_69 (by decide) ?_
        refine lv_iload_n hxq hb dJ6_getChars_ba4f3_22 rfl (lv_at hl 1 rfl) ?_
        refine lv_bipush (v := (-100)) hxq hb dJ6_getChars_ba4f3_23 (by decide) ?_
        refine lv_icmp_gt (tgt := 72) hxq hb dJ6_getChars_ba4f3_25 (by decide) (fun c_5 => ?_) (fun c_5 => ?_)
        · have c_5' : ¬ (-(nI (k / 100))) ≤ (-100) := Int32.not_le.mpr c_5
          refine lv_aload_n hxq hb dJ6_getChars_ba4f3_72 rfl (lv_at hl 6 rfl) ?_
          refine lv_iinc (v := nI n) (lv' := [(5, .int (nI n)), (0, .int (-(nI (k / 100)))), (4, .int (nI (k % 100))), (3, .int (-(nI (k / 100)))), (6, .int 0), (1, .int (nI (n + 3))), (2, .ref vb)]) hxq hb dJ6_getChars_ba4f3_73 hl (k := 0) rfl (m_dec _) (by decide) rfl (fun ls hl => ?_)
          refine lv_iload hxq hb dJ6_getChars_ba4f3_76 (lv_at hl 0 rfl) ?_
          refine va_gets hxq hb hz_t1 hS hown (hts (.fieldLink RJ6 83 "java/lang/Integer" "DigitOnes" "[B") (by decide +kernel)) (fun _ h9 => h9) dJ6_getChars_ba4f3_78 ?_
          refine lv_iload_n hxq hb dJ6_getChars_ba4f3_81 rfl (lv_at hl 1 rfl) ?_
          refine lv_ineg hxq hb dJ6_getChars_ba4f3_82 ?_
          refine lv_t0 (m_nn (k / 100)) ?_
          refine va_tb hxq hb hv_t1 hS (i := nI (k / 100)) (v := .int (nI (48 + (k / 100) % 10))) (vp_in_nI (show (k / 100) < 100 by omega) (by decide)) (by rw [nI_clamp (by omega)]; rfl) dJ6_getChars_ba4f3_83 ?_
          refine m_bast hxq hb hK hP hD hS 0 (k := n) rfl rfl (by omega) (Nat.le_of_ble_eq_true rfl) (nar_b (by omega)) dJ6_getChars_ba4f3_84 (fun H locs hP hD hS => ?_)
          have hP : va_P G vwCl [(vb, .inl (cy 0, 16, .inl (upd (upd (upd f (n + 2) (nI (48 + (k % 100) % 10))) (n + 1) (nI (48 + (k % 100) / 10))) n (nI (48 + (k / 100) % 10)))))] H := hP
          have hD : va_D (wA [(vb, .inl (cy 0, 16, .inl f))]) [(vb, .inl (cy 0, 16, .inl (upd (upd (upd f (n + 2) (nI (48 + (k % 100) % 10))) (n + 1) (nI (48 + (k % 100) / 10))) n (nI (48 + (k / 100) % 10)))))] := hD
          refine lv_iload_n hxq hb dJ6_getChars_ba4f3_85 rfl (lv_at hl 1 rfl) ?_
          refine lv_bipush (v := (-9)) hxq hb dJ6_getChars_ba4f3_86 (by decide) ?_
          refine lv_icmp_ge (tgt := 104) hxq hb dJ6_getChars_ba4f3_88 (by decide) (fun c_6 => ?_) (fun c_6 => ?_)
          · have c_6' : ¬ (-(nI (k / 100))) < (-9) := Int32.not_lt.mpr c_6
            refine lv_iload hxq hb dJ6_getChars_ba4f3_104 (lv_at hl 4 rfl) ?_
            refine lv_if_eq (tgt := 118) hxq hb dJ6_getChars_ba4f3_106 (by decide) (fun c_7 => ?_) (fun c_7 => ?_)
            · refine lv_iload hxq hb dJ6_getChars_ba4f3_118 (lv_at hl 0 rfl) ?_
              have e_8 : upd (upd (upd f (n + 2) (nI (48 + k % 100 % 10))) (n + 1) (nI (48 + k % 100 / 10))) n (nI (48 + k / 100 % 10)) = upd (upd (upd f (n + 2) (nI (48 + (k % 100) % 10))) (n + 1) (nI (48 + (k % 100) / 10))) n (nI (48 + (k / 100) % 10)) := (by simp [*])
              exact wc_iret hxq hb hr hlocks (by rw [e_8]; exact hP) hS rfl dJ6_getChars_ba4f3_120
            · exact absurd c_7 (by decide)
          · exact absurd (show (-9 : Int32) ≤ -(nI (k / 100)) from m_geM (by omega) (show (-9 : Int32).toInt = -9 from by decide) (by omega)) c_6
        · exact absurd (show (-100 : Int32) < -(nI (k / 100)) from m_gtN (by omega) (show (-100 : Int32).toInt = -100 from by decide) (by omega)) c_5
  · exact absurd (by rw [Int32.le_iff_toInt_le, nI_toInt (by omega), Int32.toInt_zero]; omega) c_1

set_option maxRecDepth 100000 in
set_option maxHeartbeats 1000000 in
theorem c_J5_append_c97b9_3 (l : Launch) (G : va_G) (cy : Nat → ClassId) (kS vS : Nat → Nat) (sb vb n : Nat) (ml : Int32) (f : Nat → Int32) (k : Nat) (hk9 : k < 1000) (hlo : 100 ≤ k) (hhi : k < 1000) (hn9 : n + 3 ≤ 16) : WC l yJ5_append_c97b9 wsJ5_append_c97b9 { frames := 1, cells := 0, slots := 0, locals := 26 } G (PD G cy kS vS [(sb, .inr (1, [.ref vb, .int 0, .int ml, .int (nI n)])), (vb, .inl (cy 0, 16, .inl f))]) [.ref sb, .int (nI k)] [(sb, .inr (1, [.ref vb, .int 0, .int ml, .int (nI n)])), (vb, .inl (cy 0, 16, .inl f))] [(sb, .inr (1, [.ref vb, .int 0, .int ml, .int (nI (n + 3))])), (vb, .inl (cy 0, 16, .inl (upd (upd (upd f (n + 2) (nI (48 + k % 100 % 10))) (n + 1) (nI (48 + k % 100 / 10))) n (nI (48 + k / 100 % 10)))))] (some (.ref sb)) := by
  refine WC.ofW (cc := cJ5_append_c97b9) (maxL := 4) (ret := (some (.object "java/lang/AbstractStringBuilder"))) (by decide) rfl (Nat.le_of_ble_eq_true rfl) ?_
  intro p e s m below meth cq S9 hr hlocks hPB hD hS ls hl
  obtain ⟨hxq, hb, hml, hown, hts⟩ := id S9
  obtain ⟨⟨⟨hP, hK⟩, hSK⟩, hDZ⟩ := hPB
  have hl : lv_has ls 4 [(0, .ref sb), (1, .int (nI k))] := hl
  have hi1 : ∀ w ∈ wsJ40, w ∈ wsJ5_append_c97b9 := by decide +kernel
  have hf15 := hts (.fieldLink RJ5 15 "java/lang/AbstractStringBuilder" "value" "[B") (by decide +kernel)
  have hf79 := hts (.fieldLink RJ5 79 "java/lang/AbstractStringBuilder" "count" "I") (by decide +kernel)
  refine lv_aload_n hxq hb dJ5_append_c97b9_0 rfl (lv_at hl 0 rfl) ?_
  refine va_get (D := G) (ci := 1) (v := .int (nI n)) (C := RJ4) (T := TJ4) (N := 4) hxq hb hts hi1 hown hK.1 hP 0 rfl rfl 3 (by decide) hf79 (fun _ h9 => h9) rfl dJ5_append_c97b9_1 ?_
  refine lv_istore_n (lv' := [(2, .int (nI n)), (0, .ref sb), (1, .int (nI k))]) hxq hb dJ5_append_c97b9_4 rfl hl (by decide) rfl (fun ls hl => ?_)
  refine lv_iload_n hxq hb dJ5_append_c97b9_5 rfl (lv_at hl 0 rfl) ?_
  refine lv_iload_n hxq hb dJ5_append_c97b9_6 rfl (lv_at hl 2 rfl) ?_
  refine c_roSi S9 (c_J6_stringSize_3 l G cy k hk9 hlo hhi) (va_cwS 1 hts gJ5_append_c97b9_J6_stringSize_0f7a4 rfl rfl rfl (by decide +kernel) ⟨Nat.le_of_ble_eq_true rfl, Nat.le_of_ble_eq_true rfl⟩) PB.blind (PB.at hK (m_Ppart hP [] rfl)) rfl hl.1 rfl (Nat.le_of_ble_eq_true rfl) ⟨Nat.zero_le _, Nat.zero_le _⟩ dJ5_append_c97b9_7 ?_
  refine lv_iadd hxq hb dJ5_append_c97b9_10 ?_
  refine lv_istore_n (lv' := [(3, .int ((nI n) + 3)), (2, .int (nI n)), (0, .ref sb), (1, .int (nI k))]) hxq hb dJ5_append_c97b9_11 rfl hl (by decide) rfl (fun ls hl => ?_)
  refine lv_aload_n hxq hb dJ5_append_c97b9_12 rfl (lv_at hl 2 rfl) ?_
  refine lv_iload_n hxq hb dJ5_append_c97b9_13 rfl (lv_at hl 0 rfl) ?_
  refine lv_t0 (show (nI n) + 3 = nI (n + 3) from (m_add rfl rfl)) ?_
  refine c_roUv S9 (c_J5_ensureCapacityInternal_d00df l G cy kS vS sb vb n ml f (n + 3) (by omega)) (va_cwU 1 hts gJ5_append_c97b9_J5_ensureCapacityInternal_d00df_u100J4 rfl rfl rfl rfl (by decide +kernel) ⟨Nat.le_of_ble_eq_true rfl, Nat.le_of_ble_eq_true rfl⟩) PD.blind (va_recv hK.1 hP (ci := 1) (q0 := 0) rfl rfl) (PD.at hDZ hSK hS (wA_sub hD [0, 1] rfl) hK (m_Ppart hP [0, 1] rfl)) rfl hl.1 rfl (Nat.le_of_ble_eq_true rfl) ⟨Nat.zero_le _, Nat.zero_le _⟩ dJ5_append_c97b9_14 ?_
  refine lv_aload_n hxq hb dJ5_append_c97b9_17 rfl (lv_at hl 2 rfl) ?_
  refine c_roUi S9 (c_J5_isLatin1_aae02 l G cy kS vS sb vb n ml f) (va_cwU 0 hts gJ5_append_c97b9_J5_isLatin1_aae02_u83J4 rfl rfl rfl rfl (by decide +kernel) ⟨Nat.le_of_ble_eq_true rfl, Nat.le_of_ble_eq_true rfl⟩) PD.blind (va_recv hK.1 hP (ci := 1) (q0 := 0) rfl rfl) (PD.at hDZ hSK hS (wA_sub hD [0, 1] rfl) hK (m_Ppart hP [0, 1] rfl)) rfl hl.1 rfl (Nat.le_of_ble_eq_true rfl) ⟨Nat.zero_le _, Nat.zero_le _⟩ dJ5_append_c97b9_18 ?_
  refine lv_if_eq (tgt := 37) hxq hb dJ5_append_c97b9_21 (by decide) (fun c_1 => ?_) (fun c_1 => ?_)
  · exact absurd c_1 (by decide)
  · refine lv_iload_n hxq hb dJ5_append_c97b9_24 rfl (lv_at hl 3 rfl) ?_
    refine lv_iload_n hxq hb dJ5_append_c97b9_25 rfl (lv_at hl 0 rfl) ?_
    refine lv_aload_n hxq hb dJ5_append_c97b9_26 rfl (lv_at hl 2 rfl) ?_
    refine va_get (D := G) (ci := 1) (v := .ref vb) (C := RJ4) (T := TJ4) (N := 4) hxq hb hts hi1 hown hK.1 hP 0 rfl rfl 0 (by decide) hf15 (fun _ h9 => h9) rfl dJ5_append_c97b9_27 ?_
    refine lv_t1 (show (nI n) + 3 = nI (n + 3) from (m_add rfl rfl)) ?_
    refine c_wcSi (ws' := [(sb, .inr (1, [.ref vb, .int 0, .int ml, .int (nI n)])), (vb, .inl (cy 0, 16, .inl (upd (upd (upd f (n + 2) (nI (48 + k % 100 % 10))) (n + 1) (nI (48 + k % 100 / 10))) n (nI (48 + k / 100 % 10)))))]) S9 (c_J6_getChars_3 l G cy kS vS vb n f k hk9 hlo hhi (by omega)) (va_cwS 3 hts gJ5_append_c97b9_J6_getChars_ba4f3 rfl rfl rfl (by decide +kernel) ⟨Nat.le_of_ble_eq_true rfl, Nat.le_of_ble_eq_true rfl⟩) PD.blind (PD.at hDZ hSK hS (wA_sub hD [1] rfl) hK (m_Ppart hP [1] rfl)) hP hD hS [1] rfl rfl rfl rfl rfl hl.1 rfl (Nat.le_of_ble_eq_true rfl) ⟨Nat.zero_le _, Nat.zero_le _⟩ dJ5_append_c97b9_30 (fun H locs hP hD hS => ?_)
    refine lv_pop hxq hb dJ5_append_c97b9_33 rfl ?_
    refine lv_goto (tgt := 48) hxq hb dJ5_append_c97b9_34 (by decide) ?_
    refine lv_aload_n hxq hb dJ5_append_c97b9_48 rfl (lv_at hl 2 rfl) ?_
    refine lv_iload_n hxq hb dJ5_append_c97b9_49 rfl (lv_at hl 0 rfl) ?_
    refine lv_t0 (show (nI n) + 3 = nI (n + 3) from (m_add rfl rfl)) ?_
    refine va_put (D := G) (ci := 1) (v := .int (nI (n + 3))) (ty := .int) (C := RJ4) (T := TJ4) (N := 4) hxq hb hts hi1 tyJ4 tyJ4_ok nmJ4 hown hK.1 hP hD hS 0 rfl rfl 3 (by decide) hf79 (fun _ h9 => h9) rfl (by decide +kernel) rfl rfl (Nat.le_of_ble_eq_true rfl) dJ5_append_c97b9_50 (fun H locs hP hD hS => ?_)
    have hP : va_P G vwCl [(sb, .inr (1, [.ref vb, .int 0, .int ml, .int (nI (n + 3))])), (vb, .inl (cy 0, 16, .inl (upd (upd (upd f (n + 2) (nI (48 + k % 100 % 10))) (n + 1) (nI (48 + k % 100 / 10))) n (nI (48 + k / 100 % 10)))))] H := hP
    have hD : va_D (wA [(sb, .inr (1, [.ref vb, .int 0, .int ml, .int (nI n)])), (vb, .inl (cy 0, 16, .inl f))]) [(sb, .inr (1, [.ref vb, .int 0, .int ml, .int (nI (n + 3))])), (vb, .inl (cy 0, 16, .inl (upd (upd (upd f (n + 2) (nI (48 + k % 100 % 10))) (n + 1) (nI (48 + k % 100 / 10))) n (nI (48 + k / 100 % 10)))))] := hD
    refine lv_aload_n hxq hb dJ5_append_c97b9_53 rfl (lv_at hl 2 rfl) ?_
    exact wc_aret hxq hb hr hlocks (Or.inl ⟨_, rfl⟩) hP hS dJ5_append_c97b9_54

set_option maxRecDepth 100000 in
set_option maxHeartbeats 1000000 in
theorem c_J4_append_bf812_3 (l : Launch) (G : va_G) (cy : Nat → ClassId) (kS vS : Nat → Nat) (sb vb n : Nat) (ml : Int32) (f : Nat → Int32) (k : Nat) (hk9 : k < 1000) (hlo : 100 ≤ k) (hhi : k < 1000) (hn9 : n + 3 ≤ 16) : WC l yJ4_append_bf812 wsJ4_append_bf812 { frames := 2, cells := 0, slots := 0, locals := 49 } G (PD G cy kS vS [(sb, .inr (1, [.ref vb, .int 0, .int ml, .int (nI n)])), (vb, .inl (cy 0, 16, .inl f))]) [.ref sb, .int (nI k)] [(sb, .inr (1, [.ref vb, .int 0, .int ml, .int (nI n)])), (vb, .inl (cy 0, 16, .inl f))] [(sb, .inr (1, [.ref vb, .int 0, .int ml, .int (nI (n + 3))])), (vb, .inl (cy 0, 16, .inl (upd (upd (upd f (n + 2) (nI (48 + k % 100 % 10))) (n + 1) (nI (48 + k % 100 / 10))) n (nI (48 + k / 100 % 10)))))] (some (.ref sb)) := by
  refine WC.ofW (cc := cJ4_append_bf812) (maxL := 2) (ret := (some (.object "java/lang/StringBuilder"))) (by decide) rfl (Nat.le_of_ble_eq_true rfl) ?_
  intro p e s m below meth cq S9 hr hlocks hPB hD hS ls hl
  obtain ⟨hxq, hb, hml, hown, hts⟩ := id S9
  obtain ⟨⟨⟨hP, hK⟩, hSK⟩, hDZ⟩ := hPB
  have hl : lv_has ls 2 [(0, .ref sb), (1, .int (nI k))] := hl
  refine lv_aload_n hxq hb dJ4_append_bf812_0 rfl (lv_at hl 0 rfl) ?_
  refine lv_iload_n hxq hb dJ4_append_bf812_1 rfl (lv_at hl 1 rfl) ?_
  refine c_wcSUr (ws' := [(sb, .inr (1, [.ref vb, .int 0, .int ml, .int (nI (n + 3))])), (vb, .inl (cy 0, 16, .inl (upd (upd (upd f (n + 2) (nI (48 + k % 100 % 10))) (n + 1) (nI (48 + k % 100 / 10))) n (nI (48 + k / 100 % 10)))))]) (hK.1.1 1 _ rfl).2 S9 (c_J5_append_c97b9_3 l G cy kS vS sb vb n ml f k hk9 hlo hhi (by omega)) (va_cwSU 1 hts gJ4_append_bf812_J5_append_c97b9_s53 rfl rfl rfl (by decide +kernel) ⟨Nat.le_of_ble_eq_true rfl, Nat.le_of_ble_eq_true rfl⟩) PD.blind (va_recv hK.1 hP (ci := 1) (q0 := 0) rfl rfl) (PD.at hDZ hSK hS (wA_sub hD [0, 1] rfl) hK (m_Ppart hP [0, 1] rfl)) hP hD hS [0, 1] rfl rfl rfl rfl rfl hl.1 rfl (Nat.le_of_ble_eq_true rfl) ⟨Nat.zero_le _, Nat.zero_le _⟩ dJ4_append_bf812_2 (fun H locs hP hD hS => ?_)
  refine lv_pop hxq hb dJ4_append_bf812_5 rfl ?_
  refine lv_aload_n hxq hb dJ4_append_bf812_6 rfl (lv_at hl 0 rfl) ?_
  exact wc_aret hxq hb hr hlocks (Or.inl ⟨_, rfl⟩) hP hS dJ4_append_bf812_7

set_option maxRecDepth 100000 in
set_option maxHeartbeats 1000000 in
theorem c_J5_setLength_d00df (l : Launch) (G : va_G) (cy : Nat → ClassId) (kS vS : Nat → Nat) (sb vb n : Nat) (ml : Int32) (f : Nat → Int32) (hn9 : n ≤ 16) : WC l yJ5_setLength_d00df wsJ5_setLength_d00df { frames := 1, cells := 0, slots := 0, locals := 22 } G (PD G cy kS vS [(sb, .inr (1, [.ref vb, .int 0, .int ml, .int (nI n)])), (vb, .inl (cy 0, 16, .inl f))]) [.ref sb, .int 0] [(sb, .inr (1, [.ref vb, .int 0, .int ml, .int (nI n)])), (vb, .inl (cy 0, 16, .inl f))] [(sb, .inr (1, [.ref vb, .int 0, .int (if n = 0 then ml else 1), .int (nI 0)])), (vb, .inl (cy 0, 16, .inl f))] (none) := by
  refine WC.ofW (cc := cJ5_setLength_d00df) (maxL := 2) (ret := none) (by decide) rfl (Nat.le_of_ble_eq_true rfl) ?_
  intro p e s m below meth cq S9 hr hlocks hPB hD hS ls hl
  obtain ⟨hxq, hb, hml, hown, hts⟩ := id S9
  obtain ⟨⟨⟨hP, hK⟩, hSK⟩, hDZ⟩ := hPB
  have hl : lv_has ls 2 [(0, .ref sb), (1, .int 0)] := hl
  have hi1 : ∀ w ∈ wsJ40, w ∈ wsJ5_setLength_d00df := by decide +kernel
  have hf73 := hts (.fieldLink RJ5 73 "java/lang/AbstractStringBuilder" "maybeLatin1" "Z") (by decide +kernel)
  have hf79 := hts (.fieldLink RJ5 79 "java/lang/AbstractStringBuilder" "count" "I") (by decide +kernel)
  refine lv_iload_n hxq hb dJ5_setLength_d00df_0 rfl (lv_at hl 1 rfl) ?_
  refine lv_if_ge (tgt := 13) hxq hb dJ5_setLength_d00df_1 (by decide) (fun c_1 => ?_) (fun c_1 => ?_)
  · refine lv_aload_n hxq hb dJ5_setLength_d00df_13 rfl (lv_at hl 0 rfl) ?_
    refine lv_iload_n hxq hb dJ5_setLength_d00df_14 rfl (lv_at hl 1 rfl) ?_
    refine lv_t0 (show 0 = nI 0 from rfl) ?_
    refine c_roUv S9 (c_J5_ensureCapacityInternal_d00df l G cy kS vS sb vb n ml f 0 (by omega)) (va_cwU 1 hts gJ5_setLength_d00df_J5_ensureCapacityInternal_d00df_u100J4 rfl rfl rfl rfl (by decide +kernel) ⟨Nat.le_of_ble_eq_true rfl, Nat.le_of_ble_eq_true rfl⟩) PD.blind (va_recv hK.1 hP (ci := 1) (q0 := 0) rfl rfl) (PD.at hDZ hSK hS (wA_sub hD [0, 1] rfl) hK (m_Ppart hP [0, 1] rfl)) rfl hl.1 rfl (Nat.le_of_ble_eq_true rfl) ⟨Nat.zero_le _, Nat.zero_le _⟩ dJ5_setLength_d00df_15 ?_
    refine lv_aload_n hxq hb dJ5_setLength_d00df_18 rfl (lv_at hl 0 rfl) ?_
    refine va_get (D := G) (ci := 1) (v := .int (nI n)) (C := RJ4) (T := TJ4) (N := 4) hxq hb hts hi1 hown hK.1 hP 0 rfl rfl 3 (by decide) hf79 (fun _ h9 => h9) rfl dJ5_setLength_d00df_19 ?_
    refine lv_iload_n hxq hb dJ5_setLength_d00df_22 rfl (lv_at hl 1 rfl) ?_
    refine lv_icmp_ge (tgt := 63) hxq hb dJ5_setLength_d00df_23 (by decide) (fun c_2 => ?_) (fun c_2 => ?_)
    · have k_3 : 0 ≤ n := (m_leN (a := 0) (b := n) rfl rfl (by omega) (by omega)).mp c_2
      have k_3' : ¬ (n < 0) := by omega
      refine lv_aload_n hxq hb dJ5_setLength_d00df_63 rfl (lv_at hl 0 rfl) ?_
      refine va_get (D := G) (ci := 1) (v := .int (nI n)) (C := RJ4) (T := TJ4) (N := 4) hxq hb hts hi1 hown hK.1 hP 0 rfl rfl 3 (by decide) hf79 (fun _ h9 => h9) rfl dJ5_setLength_d00df_64 ?_
      refine lv_iload_n hxq hb dJ5_setLength_d00df_67 rfl (lv_at hl 1 rfl) ?_
      refine lv_icmp_le (tgt := 76) hxq hb dJ5_setLength_d00df_68 (by decide) (fun c_4 => ?_) (fun c_4 => ?_)
      · have k_5 : n ≤ 0 := (m_leN (a := n) (b := 0) rfl rfl (by omega) (by omega)).mp c_4
        have k_5' : ¬ (0 < n) := by omega
        refine lv_aload_n hxq hb dJ5_setLength_d00df_76 rfl (lv_at hl 0 rfl) ?_
        refine lv_iload_n hxq hb dJ5_setLength_d00df_77 rfl (lv_at hl 1 rfl) ?_
        refine va_put (D := G) (ci := 1) (v := .int 0) (ty := .int) (C := RJ4) (T := TJ4) (N := 4) hxq hb hts hi1 tyJ4 tyJ4_ok nmJ4 hown hK.1 hP hD hS 0 rfl rfl 3 (by decide) hf79 (fun _ h9 => h9) rfl (by decide +kernel) rfl rfl (Nat.le_of_ble_eq_true rfl) dJ5_setLength_d00df_78 (fun H locs hP hD hS => ?_)
        have hP : va_P G vwCl [(sb, .inr (1, [.ref vb, .int 0, .int ml, .int 0])), (vb, .inl (cy 0, 16, .inl f))] H := hP
        have hD : va_D (wA [(sb, .inr (1, [.ref vb, .int 0, .int ml, .int (nI n)])), (vb, .inl (cy 0, 16, .inl f))]) [(sb, .inr (1, [.ref vb, .int 0, .int ml, .int 0])), (vb, .inl (cy 0, 16, .inl f))] := hD
        have e_6 : (if n = 0 then ml else 1) = ml := (if_pos (by omega))
        have e_7 : nI 0 = 0 := rfl
        exact wc_vret hxq hb hr hlocks (by rw [e_6, e_7]; exact hP) hS dJ5_setLength_d00df_81
      · have k_8 : ¬ (n ≤ 0) := fun z => c_4 ((m_leN (a := n) (b := 0) rfl rfl (by omega) (by omega)).mpr z)
        have k_8' : 0 < n := by omega
        refine lv_aload_n hxq hb dJ5_setLength_d00df_71 rfl (lv_at hl 0 rfl) ?_
        refine lv_iconst (v := 1) hxq hb dJ5_setLength_d00df_72 (by decide) ?_
        refine va_put (D := G) (ci := 1) (v := .int 1) (ty := .boolean) (C := RJ4) (T := TJ4) (N := 4) hxq hb hts hi1 tyJ4 tyJ4_ok nmJ4 hown hK.1 hP hD hS 0 rfl rfl 2 (by decide) hf73 (fun _ h9 => h9) rfl (by decide +kernel) rfl rfl (Nat.le_of_ble_eq_true rfl) dJ5_setLength_d00df_73 (fun H locs hP hD hS => ?_)
        have hP : va_P G vwCl [(sb, .inr (1, [.ref vb, .int 0, .int 1, .int (nI n)])), (vb, .inl (cy 0, 16, .inl f))] H := hP
        have hD : va_D (wA [(sb, .inr (1, [.ref vb, .int 0, .int ml, .int (nI n)])), (vb, .inl (cy 0, 16, .inl f))]) [(sb, .inr (1, [.ref vb, .int 0, .int 1, .int (nI n)])), (vb, .inl (cy 0, 16, .inl f))] := hD
        refine lv_aload_n hxq hb dJ5_setLength_d00df_76 rfl (lv_at hl 0 rfl) ?_
        refine lv_iload_n hxq hb dJ5_setLength_d00df_77 rfl (lv_at hl 1 rfl) ?_
        refine va_put (D := G) (ci := 1) (v := .int 0) (ty := .int) (C := RJ4) (T := TJ4) (N := 4) hxq hb hts hi1 tyJ4 tyJ4_ok nmJ4 hown hK.1 hP hD hS 0 rfl rfl 3 (by decide) hf79 (fun _ h9 => h9) rfl (by decide +kernel) rfl rfl (Nat.le_of_ble_eq_true rfl) dJ5_setLength_d00df_78 (fun H locs hP hD hS => ?_)
        have hP : va_P G vwCl [(sb, .inr (1, [.ref vb, .int 0, .int 1, .int 0])), (vb, .inl (cy 0, 16, .inl f))] H := hP
        have hD : va_D (wA [(sb, .inr (1, [.ref vb, .int 0, .int ml, .int (nI n)])), (vb, .inl (cy 0, 16, .inl f))]) [(sb, .inr (1, [.ref vb, .int 0, .int 1, .int 0])), (vb, .inl (cy 0, 16, .inl f))] := hD
        have e_9 : (if n = 0 then ml else 1) = 1 := (if_neg (by omega))
        have e_10 : nI 0 = 0 := rfl
        exact wc_vret hxq hb hr hlocks (by rw [e_9, e_10]; exact hP) hS dJ5_setLength_d00df_81
    · have k_11 : ¬ (0 ≤ n) := fun z => c_2 ((m_leN (a := 0) (b := n) rfl rfl (by omega) (by omega)).mpr z)
      have k_11' : n < 0 := by omega
      exfalso; omega
  · exact absurd c_1 (by decide)

set_option maxRecDepth 100000 in
set_option maxHeartbeats 1000000 in
theorem c_J4_setLength_d00df (l : Launch) (G : va_G) (cy : Nat → ClassId) (kS vS : Nat → Nat) (sb vb n : Nat) (ml : Int32) (f : Nat → Int32) (hn9 : n ≤ 16) : WC l yJ4_setLength_d00df wsJ4_setLength_d00df { frames := 2, cells := 0, slots := 0, locals := 43 } G (PD G cy kS vS [(sb, .inr (1, [.ref vb, .int 0, .int ml, .int (nI n)])), (vb, .inl (cy 0, 16, .inl f))]) [.ref sb, .int 0] [(sb, .inr (1, [.ref vb, .int 0, .int ml, .int (nI n)])), (vb, .inl (cy 0, 16, .inl f))] [(sb, .inr (1, [.ref vb, .int 0, .int (if n = 0 then ml else 1), .int (nI 0)])), (vb, .inl (cy 0, 16, .inl f))] (none) := by
  refine WC.ofW (cc := cJ4_setLength_d00df) (maxL := 2) (ret := none) (by decide) rfl (Nat.le_of_ble_eq_true rfl) ?_
  intro p e s m below meth cq S9 hr hlocks hPB hD hS ls hl
  obtain ⟨hxq, hb, hml, hown, hts⟩ := id S9
  obtain ⟨⟨⟨hP, hK⟩, hSK⟩, hDZ⟩ := hPB
  have hl : lv_has ls 2 [(0, .ref sb), (1, .int 0)] := hl
  refine lv_aload_n hxq hb dJ4_setLength_d00df_0 rfl (lv_at hl 0 rfl) ?_
  refine lv_iload_n hxq hb dJ4_setLength_d00df_1 rfl (lv_at hl 1 rfl) ?_
  refine c_wcSUv (ws' := [(sb, .inr (1, [.ref vb, .int 0, .int (if n = 0 then ml else 1), .int (nI 0)])), (vb, .inl (cy 0, 16, .inl f))]) (hK.1.1 1 _ rfl).2 S9 (c_J5_setLength_d00df l G cy kS vS sb vb n ml f (by omega)) (va_cwSU 1 hts gJ4_setLength_d00df_J5_setLength_d00df_s333 rfl rfl rfl (by decide +kernel) ⟨Nat.le_of_ble_eq_true rfl, Nat.le_of_ble_eq_true rfl⟩) PD.blind (va_recv hK.1 hP (ci := 1) (q0 := 0) rfl rfl) (PD.at hDZ hSK hS (wA_sub hD [0, 1] rfl) hK (m_Ppart hP [0, 1] rfl)) hP hD hS [0, 1] rfl rfl rfl rfl rfl hl.1 rfl (Nat.le_of_ble_eq_true rfl) ⟨Nat.zero_le _, Nat.zero_le _⟩ dJ4_setLength_d00df_2 (fun H locs hP hD hS => ?_)
  exact wc_vret hxq hb hr hlocks hP hS dJ4_setLength_d00df_5
