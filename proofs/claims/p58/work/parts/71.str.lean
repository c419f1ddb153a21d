/-! texts: builders and strings that are made -/
def PJ (G : va_G) (cy : Nat → ClassId) (kS vS : Nat → Nat) (w : va_W) : State → Prop := fun U => PB G cy w U ∧ SK kS vS (va_A w U.heap.size) U ∧ DZ (va_A w U.heap.size) U
theorem PJ.blind {G : va_G} {cy : Nat → ClassId} {kS vS : Nat → Nat} {w : va_W} : ∀ (U : State) (g : JFrame) (mk : MethodId) (a : Array Value), PJ G cy kS vS w U → PJ G cy kS vS w (U.calling g mk a) := fun U g mk a h => ⟨PB.blind U g mk a h.1, h.2.1.blind, h.2.2.blind⟩
theorem PJ.at {G : va_G} {cy : Nat → ClassId} {kS vS : Nat → Nat} {A : Nat → Prop} {w : va_W} {s : State} {H : Heap} {locs : List Loc} (hJ : SK kS vS A s) (hZ : DZ A s) (hS : va_S A s.heap H locs) (hF : ∀ q, va_A w H.size q → A q) (hK : KK G cy s) (hP : va_P G vwCl w H) : ∀ U : State, U.heap = H → s.WarmedH U.vm → PJ G cy kS vS w U := by
  intro U hU hW
  refine ⟨PB.at hK hP U hU hW, ?_, ?_⟩
  · rw [show U.heap.size = H.size from congrArg Array.size hU]
    exact hJ.at hS hF U hU hW
  · rw [show U.heap.size = H.size from congrArg Array.size hU]
    exact hZ.at hS hF U hU hW
def PTx (G : va_G) (cy : Nat → ClassId) (kS vS : Nat → Nat) (bs : List Int32) (x y : Nat) (w : va_W) : State → Prop := fun U => PJ G cy kS vS w U ∧ strI bs.length bs x y (va_A w U.heap.size) U U.heap
theorem strI.moved9 {n : Nat} {bs : List Int32} {x y : Nat} {A : Nat → Prop} {u U : State} {H : Heap} (hvm : u.vm.Alike U.vm) (h : strI n bs x y A u H) : strI n bs x y A U H := ⟨va_O.moved hvm h.1, va_OF.moved hvm h.2.1, va_OF.moved hvm h.2.2.1, va_T.moved hvm h.2.2.2⟩
theorem strI.kept9 {n : Nat} {bs : List Int32} {x y : Nat} {A B : Nat → Prop} {s : State} {H : Heap} {locs : List Loc} (h : strI n bs x y A s s.heap) (hS : va_S A s.heap H locs) (hB : ∀ q, B q → A q) : strI n bs x y B s H := ⟨(h.1.kept hS.2.1).narrow hB, (h.2.1.kept hS.2.1).narrow hB, (h.2.2.1.kept hS.2.1).narrow hB, (h.2.2.2.kept hS.2.1).narrow hB⟩
theorem PTx.blind {G : va_G} {cy : Nat → ClassId} {kS vS : Nat → Nat} {bs : List Int32} {x y : Nat} {w : va_W} : ∀ (U : State) (g : JFrame) (mk : MethodId) (a : Array Value), PTx G cy kS vS bs x y w U → PTx G cy kS vS bs x y w (U.calling g mk a) := fun U g mk a h => ⟨PJ.blind U g mk a h.1, strI.moved9 (u := U) (U := U.calling g mk a) (Vm.Alike.refl U.vm) h.2⟩
theorem PTx.at {G : va_G} {cy : Nat → ClassId} {kS vS : Nat → Nat} {bs : List Int32} {x y : Nat} {A : Nat → Prop} {w : va_W} {s : State} {H : Heap} {locs : List Loc} (hT : strI bs.length bs x y (va_A w H.size) s H) (hJ : SK kS vS A s) (hZ : DZ A s) (hS : va_S A s.heap H locs) (hF : ∀ q, va_A w H.size q → A q) (hK : KK G cy s) (hP : va_P G vwCl w H) : ∀ U : State, U.heap = H → s.WarmedH U.vm → PTx G cy kS vS bs x y w U := by
  intro U hU hW
  refine ⟨PJ.at hJ hZ hS hF hK hP U hU hW, ?_⟩
  rw [show U.heap.size = H.size from congrArg Array.size hU, hU]
  exact hT.moved9 hW.alike
theorem strI.recv {n : Nat} {bs : List Int32} {x y : Nat} {A : Nat → Prop} {s : State} {H : Heap} (h : strI n bs x y A s H) : ∃ cell : Cell, H[x]? = some cell ∧ cell.vm.isStatics = false ∧ s.vm.findClass "java/lang/String" = some cell.cls := by
  obtain ⟨cell, h1, h2, h3, -⟩ := h.1
  exact ⟨cell, h1, h2, h3⟩
/-- a method over its world w, which becomes w' u; new cells may come; C says of u -/
def GR {T9 : Type} (l : Launch) (y : MethodName) (rm : Room) (mc ms : Nat) (G : va_G) (P : State → Prop) (av : List Value) (w : va_W) (C : T9 → Prop) (w' : T9 → va_W) (r : T9 → Option Value) : Prop := ∀ sz : Nat, Met l y wsL_law rm (va_Pc av (fun U => U.heap.size = sz ∧ P U ∧ va_D (fun _ => True) w)) (fun _ st o t => ∃ u : T9, C u ∧ o = .returned (r u) ∧ va_P G vwCl (w' u) t.heap ∧ va_D (va_A w sz) (w' u) ∧ va_F (va_A w sz) st t) mc ms (va_A w sz)
abbrev grZ {T9 : Type} (below : List Frame) (a : Array Value) (s : State) (mc ms : Nat) (G : va_G) (w : va_W) (C : T9 → Prop) (w' : T9 → va_W) (r : T9 → Option Value) : State → Prop := MQ below (fun _ st o t => ∃ u : T9, C u ∧ o = .returned (r u) ∧ va_P G vwCl (w' u) t.heap ∧ va_D (va_A w s.heap.size) (w' u) ∧ va_F (va_A w s.heap.size) st t) a s mc ms (va_A w s.heap.size)
theorem GR.ofB {T9 : Type} {l : Launch} {y : MethodName} {rm : Room} {mc ms : Nat} {G : va_G} {P : State → Prop} {av : List Value} {w : va_W} {C : T9 → Prop} {w' : T9 → va_W} {r : T9 → Option Value} {cc : ByteArray} {maxL : Nat} {ret : Option FieldType} (hy : plainName y.cls = true) (hc : Cond.code y cc maxL ret ∈ wsL_law) (hn : (lg_sl av).length ≤ maxL)
    (body : ∀ (p : Program) (e : Env) (s : State) (m : MethodId) (below : List Frame) (meth : Method) (c : Code), CallFix p m c cc maxL s av.toArray wsL_law y.cls → meth.sig.returnType = ret → meth.locks = false → meth.name = y.name → P s → va_D (va_A w s.heap.size) w → va_S (va_A w s.heap.size) s.heap s.heap [] → (∀ q, s.heap.size ≤ q → va_A w s.heap.size q) → ∀ ls : Array Slot, lv_has ls maxL (lv_args 0 av) →
      W p l e rm s m av.toArray below meth c s.heap [] 0 0 (grZ below av.toArray s mc ms G w C w' r) (F0 m 0 ls [])) : GR l y rm mc ms G P av w C w' r := by
  intro sz
  refine Met.conv (ws := Cond.code y cc maxL ret :: wsL_law) (Met.ofW hy rfl ?_) (fun w hw => by rcases List.mem_cons.mp hw with e | e; exact e ▸ hc; exact e) ⟨Nat.le_refl _, Nat.le_refl _, Nat.le_refl _, Nat.le_refl _⟩ (fun _ _ hp => hp) (fun _ _ _ _ _ q => q) (Nat.le_refl _) (Nat.le_refl _) (fun _ hq => hq)
  intro p e s m args below meth c s₁ B hml hv
  obtain ⟨rfl, hsz, hP, hD⟩ := hv
  subst hsz
  rw [lg_entry_eq]
  exact body p e s m below meth c ⟨B.exec, B.bytes, hml, findClass_of_methodNamed B.named, fun w hw => atoms_spec B.pre w (List.mem_cons_of_mem _ hw)⟩ B.returns B.notSynchronized (name_of_methodNamed B.named B.method).1 hP hD.self va_S.rf (fun q h => Or.inr h) _ (lv_entry av hn)
/-- a method that writes in place is one that makes nothing -/
theorem GR.ofWC {T9 : Type} {l : Launch} {y : MethodName} {ws : List Cond} {rm : Room} {mc ms : Nat} {G : va_G} {P P' : State → Prop} {av : List Value} {w w1 : va_W} {C : T9 → Prop} {w' : T9 → va_W} {r : T9 → Option Value} {r1 : Option Value} (h : WC l y ws rm G P av w w1 r1) (hsub : ∀ c ∈ ws, c ∈ wsL_law) (hPP : ∀ U, P' U → P U) (u : T9) (hC : C u) (hw : w' u = w1) (hr : r u = r1) (h1 : w1.map Prod.fst = w.map Prod.fst) : GR l y rm mc ms G P' av w C w' r := by
  intro sz
  unfold WC at h
  refine Met.conv h hsub ⟨Nat.le_refl _, Nat.le_refl _, Nat.le_refl _, Nat.le_refl _⟩ (fun _ _ ⟨ha, _, hp, hd⟩ => ⟨ha, hPP _ hp, hd⟩) ?_ (Nat.zero_le _) (Nat.zero_le _) (fun _ hq => Or.inl hq)
  rintro a s o t ⟨-, -, -, hd⟩ ⟨ho, hp, hz, hk⟩
  exact ⟨u, hC, by rw [hr]; exact ho, by rw [hw]; exact hp, by rw [hw]; exact va_D.same h1 hd.self, hz, fun q h1 h2 => hk q h1 (fun z => h2 (Or.inl z))⟩
theorem GR.mono {T9 T8 : Type} {l : Launch} {y : MethodName} {rm rm' : Room} {mc ms mc' ms' : Nat} {G : va_G} {P : State → Prop} {av : List Value} {w : va_W} {C : T9 → Prop} {C' : T8 → Prop} {w' : T9 → va_W} {w8 : T8 → va_W} {r : T9 → Option Value} {r8 : T8 → Option Value} (h : GR l y rm mc ms G P av w C w' r) (hr : rm.frames ≤ rm'.frames ∧ rm.cells ≤ rm'.cells ∧ rm.slots ≤ rm'.slots ∧ rm.locals ≤ rm'.locals) (hc : mc ≤ mc') (hs : ms ≤ ms') (hC : ∀ u, C u → ∃ v, C' v ∧ w8 v = w' u ∧ r8 v = r u) : GR l y rm' mc' ms' G P av w C' w8 r8 := by
  intro sz
  refine Met.conv (h sz) (fun _ hw => hw) hr (fun _ _ hp => hp) ?_ hc hs (fun _ hq => hq)
  rintro a s o t - ⟨u, hu, ho, hp, hd, hf⟩
  obtain ⟨v, hv, e1, e2⟩ := hC u hu
  exact ⟨v, hv, by rw [e2]; exact ho, by rw [e1]; exact hp, by rw [e1]; exact hd, hf⟩
theorem bigU {R : Room} {s : State} {args : Array Value} {own C owner : String} {index : Nat} {x y : MethodName} {bytes : ByteArray} {maxL mc ms : Nat} {ret : Option FieldType} {rm : Room} (n : Nat) (ht : ∀ w ∈ wsL_law, w.before args s = true) (hl : Cond.methodLink own index x ∈ wsL_law) (hsm : Cond.sameMethod x.cls owner x.name x.desc ∈ wsL_law) (hs : Cond.selects C x y ∈ wsL_law) (hm : Cond.instanceMethod y ∈ wsL_law) (hi : Cond.initialized y.cls ∈ wsL_law) (hc : Cond.code y bytes maxL ret ∈ wsL_law) (hrc : rm.cells = mc) (hrs : rm.slots = ms) (hyx : y = ⟨owner, x.name, x.desc⟩)
    (hd : owner ≠ "java/lang/invoke/MethodHandle" ∧ owner ≠ "java/lang/invoke/VarHandle" ∧ (parseMethodDescriptor x.desc).map (fun d => d.parameters.length) = some n) (hR : rm.frames + 1 ≤ R.frames ∧ 8 + (maxL + 11) + rm.locals ≤ R.locals) : va_CU R s args own C owner index x y bytes maxL ret wsL_law rm mc ms n := by
  refine ⟨⟨hrc, hrs, hR.1, hR.2, pay_in ht gBB, hc⟩, ht _ hc, ht _ hi, ⟨hd.1, hd.2.1⟩, fun sig h => ?_, ht _ hl, ht _ hsm, by rw [← hyx]; exact va_Decl.of (ht _ hm) (ht _ hc), ht _ hs, ht _ hm⟩
  have h2 := hd.2.2
  rw [h] at h2
  exact (Option.some.inj h2).symm
theorem bigO {R : Room} {s : State} {args : Array Value} {own C owner : String} {index : Nat} {x y : MethodName} {bytes : ByteArray} {maxL mc ms : Nat} {ret : Option FieldType} {rm : Room} (n : Nat) (ht : ∀ w ∈ wsL_law, w.before args s = true) (hl : Cond.methodLink own index x ∈ wsL_law) (hsm : Cond.sameMethod x.cls owner x.name x.desc ∈ wsL_law) (hs : Cond.selects C x y ∈ wsL_law) (hm : Cond.instanceMethod y ∈ wsL_law) (hi : Cond.initialized y.cls ∈ wsL_law) (hc : Cond.code y bytes maxL ret ∈ wsL_law) (hrc : rm.cells = mc) (hrs : rm.slots = ms) {b0 : ByteArray} {m0 : Nat} {r0 : Option FieldType} (h0 : Cond.instanceMethod ⟨owner, x.name, x.desc⟩ ∈ wsL_law) (h1 : Cond.code ⟨owner, x.name, x.desc⟩ b0 m0 r0 ∈ wsL_law)
    (hd : owner ≠ "java/lang/invoke/MethodHandle" ∧ owner ≠ "java/lang/invoke/VarHandle" ∧ (parseMethodDescriptor x.desc).map (fun d => d.parameters.length) = some n) (hR : rm.frames + 1 ≤ R.frames ∧ 8 + (maxL + 11) + rm.locals ≤ R.locals) : va_CU R s args own C owner index x y bytes maxL ret wsL_law rm mc ms n := by
  refine ⟨⟨hrc, hrs, hR.1, hR.2, pay_in ht gBB, hc⟩, ht _ hc, ht _ hi, ⟨hd.1, hd.2.1⟩, fun sig h => ?_, ht _ hl, ht _ hsm, va_Decl.of (ht _ h0) (ht _ h1), ht _ hs, ht _ hm⟩
  have h2 := hd.2.2
  rw [h] at h2
  exact (Option.some.inj h2).symm
theorem bigSU {R : Room} {s : State} {args : Array Value} {own : String} {index : Nat} {y : MethodName} {bytes : ByteArray} {maxL mc ms : Nat} {ret : Option FieldType} {rm : Room} (n : Nat) (ht : ∀ w ∈ wsL_law, w.before args s = true) (hl : Cond.methodLink own index y ∈ wsL_law) (hsm : Cond.sameMethod y.cls y.cls y.name y.desc ∈ wsL_law) (hsu : Cond.superclass own y.cls ∈ wsL_law) (hm : Cond.instanceMethod y ∈ wsL_law) (hi : Cond.initialized y.cls ∈ wsL_law) (hc : Cond.code y bytes maxL ret ∈ wsL_law) (hrc : rm.cells = mc) (hrs : rm.slots = ms)
    (hd : y.name ≠ "<init>" ∧ (parseMethodDescriptor y.desc).map (fun d => d.parameters.length) = some n) (hR : rm.frames + 1 ≤ R.frames ∧ 8 + (maxL + 11) + rm.locals ≤ R.locals) : va_CS R s args own index y bytes maxL ret wsL_law rm mc ms n := by
  refine ⟨⟨hrc, hrs, hR.1, hR.2, pay_in ht gBB, hc⟩, ht _ hl, ht _ hsm, ht _ hsu, ht _ hm, ht _ hi, ht _ hc, hd.1, fun sig h => ?_⟩
  have h2 := hd.2
  rw [h] at h2
  exact (Option.some.inj h2).symm
theorem bigI {R : Room} {s : State} {args : Array Value} {own : String} {index : Nat} {y : MethodName} {bytes : ByteArray} {maxL mc ms : Nat} {rm : Room} (n : Nat) (ht : ∀ w ∈ wsL_law, w.before args s = true) (hl : Cond.methodLink own index y ∈ wsL_law) (hi : Cond.initialized y.cls ∈ wsL_law) (hc : Cond.code y bytes maxL none ∈ wsL_law) (hm : Cond.instanceMethod y ∈ wsL_law) (hrc : rm.cells = mc) (hrs : rm.slots = ms) (hnm : y.name = "<init>")
    (hd : y.cls ≠ "java/lang/invoke/MethodHandle" ∧ y.cls ≠ "java/lang/invoke/VarHandle" ∧ (parseMethodDescriptor y.desc).map (fun d => d.parameters.length) = some n) (hR : rm.frames + 1 ≤ R.frames ∧ 8 + (maxL + 11) + rm.locals ≤ R.locals) : CallB R s args own index y bytes maxL none wsL_law rm mc ms n ∧ y.name = "<init>" ∧ (Cond.instanceMethod y).before args s = true := ⟨bigB n ht hl hi hc hrc hrs hd hR, hnm, ht _ hm⟩
section GY
variable {p : Program} {l : Launch} {e : Env} {R : Room} {s : State} {m : MethodId} {args : Array Value} {below : List Frame} {meth : Method} {c : Code} {H H0 : Heap} {locs : List Loc} {cells slots : Nat} {Q : State → Prop}
variable {cc : ByteArray} {pc : Nat} {ls : Array Slot} {rest st0 : List Value} {G : va_G} {cy : Nat → ClassId} {A : Nat → Prop} {wr w : va_W} {T9 : Type} {C9 : T9 → Prop} {w' : T9 → va_W} {r : T9 → Option Value} {mc ms : Nat}
theorem g_run (hr : va_Run p l e R s m args below meth c H locs cells slots mc ms (F0 m pc ls st0) rest (fun st oc t => ∃ u : T9, C9 u ∧ oc = .returned (r u) ∧ va_P G vwCl (w' u) t.heap ∧ va_D (va_A w H.size) (w' u) ∧ va_F (va_A w H.size) st t) (va_A w H.size)) (hP : va_P G vwCl (wr ++ w) H) (hD : va_D A (wr ++ w)) (hS : va_S A H0 H locs) (hA : ∀ q, H0.size ≤ q → A q)
    (kk : ∀ (u : T9) (H1 : Heap) (locs1 : List Loc), C9 u → va_P G vwCl (wr ++ w' u) H1 → va_D A (wr ++ w' u) → va_S A H0 H1 locs1 → W p l e R s m args below meth c H1 locs1 (cells + mc) (slots + ms) Q (F0 m (pc + 3) ls ((r u).toList ++ rest))) : W p l e R s m args below meth c H locs cells slots Q (F0 m pc ls st0) := by
  intro T hT X
  obtain ⟨v, st₀, t, T', L, h0, X', hL, e1, e2, ⟨u, hu, hv, hp, hd, hz, hk⟩, st⟩ := hr T hT X
  cases hv
  rw [h0] at hz hk
  have hF : ∀ q, va_A w H.size q → A q := by
    rintro q (⟨k, e, h⟩ | h)
    · exact (strip_D hD).2 k (q, e) h
    · exact hA q (Nat.le_trans hS.1 h)
  obtain ⟨hP2, hD2⟩ := va_joinA hP hD hk hF hp hd
  obtain ⟨t2, a1, b1⟩ := kk u t.heap (locs ++ L) hu hP2 hD2 ⟨Nat.le_trans hS.1 hz, fun q q1 q2 => (hk q (Nat.lt_of_lt_of_le q1 hS.1) (fun z => q2 (hF q z))).trans (hS.2.1 q q1 q2), fun q hq => by
      rcases List.mem_append.mp hq with h | h
      · exact hS.2.2 q h
      · exact hF _ (hL q h)⟩ T' e1 X'
  exact ⟨t2, st t2 a1, b1⟩
theorem gr_aret {v : Nat} {rt : FieldType} (hx : p.tables.exec = Jvm.exec) (hb : c.code = cc) (hr : meth.sig.returnType = some rt) (hlocks : meth.locks = false) (hrt : (∃ n, rt = .object n) ∨ ∃ t, rt = .array t) (u : T9) (hu : C9 u) (hru : r u = some (.ref v)) (hP : va_P G vwCl (w' u) H) (hD : va_D (va_A w s.heap.size) (w' u)) (hS : va_S (va_A w s.heap.size) s.heap H locs) (hc : cells ≤ mc) (hs : slots ≤ ms) (hdg : decode cc pc = .ok (.areturn, 1)) : W p l e R s m args below meth c H locs cells slots (grZ below args s mc ms G w C9 w' r) (F0 m pc ls [.ref v]) :=
  W.widen hc hs (W.aret hx hb hr hrt (Or.inr ⟨_, rfl⟩) (fun t ht _ => ⟨u, hu, by rw [hru], by rw [ht]; exact hP, hD, hS.F ht⟩) hS.2.2 hdg hlocks)
theorem gr_vret (hx : p.tables.exec = Jvm.exec) (hb : c.code = cc) (hr : meth.sig.returnType = none) (hlocks : meth.locks = false) (u : T9) (hu : C9 u) (hru : r u = none) (hP : va_P G vwCl (w' u) H) (hD : va_D (va_A w s.heap.size) (w' u)) (hS : va_S (va_A w s.heap.size) s.heap H locs) (hc : cells ≤ mc) (hs : slots ≤ ms) (hdg : decode cc pc = .ok (.return_, 1)) : W p l e R s m args below meth c H locs cells slots (grZ below args s mc ms G w C9 w' r) (F0 m pc ls []) :=
  W.widen hc hs (W.vret hx hb hr (fun t ht _ => ⟨u, hu, by rw [hru], by rw [ht]; exact hP, hD, hS.F ht⟩) hS.2.2 hdg hlocks)
end GY
theorem PJ.pd {G : va_G} {cy : Nat → ClassId} {kS vS : Nat → Nat} {w : va_W} {U : State} (h : PJ G cy kS vS w U) : PD G cy kS vS w U := ⟨⟨h.1, ⟨h.2.1.1.narrow (fun q z => Or.inl z), h.2.1.2.1, h.2.1.2.2.1.narrow (fun q z => Or.inl z), h.2.1.2.2.2.narrow (fun q z => Or.inl z)⟩⟩, DZ.at (s := U) (locs := []) h.2.2 va_S.rf (fun q z => Or.inl z) U rfl (State.WarmedH.refl U)⟩
theorem RO.up {l : Launch} {y : MethodName} {ws : List Cond} {rm : Room} {P P' : State → Prop} {av : List Value} {r : Option Value} (h : RO l y ws rm P av r) (hsub : ∀ w ∈ ws, w ∈ wsL_law) (hPP : ∀ U, P' U → P U) : RO l y wsL_law rm P' av r := by
  unfold RO at h ⊢
  exact Met.conv h hsub ⟨Nat.le_refl _, Nat.le_refl _, Nat.le_refl _, Nat.le_refl _⟩ (fun _ _ hp => ⟨hp.1, hPP _ hp.2⟩) (fun _ _ _ _ _ q => q) (Nat.le_refl _) (Nat.le_refl _) (fun _ hq => hq)
/-- a builder: its text l, in m bytes -/
def BTx (m : Nat) (l : List Int32) (f : Nat → Int32) : Prop := (m = 16 ∨ m = 34) ∧ l.length ≤ m ∧ (∀ i, i < m → fits .byte (.int (f i)) = true) ∧ ∀ i, i < l.length → f i = l.getD i 0
def FB (bs : List Int32) : Prop := ∀ c ∈ bs, fits .byte (.int c) = true
theorem getD_app {l bs : List Int32} {i : Nat} : (l ++ bs).getD i 0 = if i < l.length then l.getD i 0 else bs.getD (i - l.length) 0 := by
  by_cases h : i < l.length
  · rw [if_pos h, List.getD_eq_getElem?_getD, List.getD_eq_getElem?_getD, List.getElem?_append_left h]
  · rw [if_neg h, List.getD_eq_getElem?_getD, List.getD_eq_getElem?_getD, List.getElem?_append_right (by omega)]
theorem getD_fit {bs : List Int32} (h : FB bs) {i : Nat} (hi : i < bs.length) : fits .byte (.int (bs.getD i 0)) = true := by
  rw [List.getD_eq_getElem?_getD, List.getElem?_eq_getElem hi]
  exact h _ (List.getElem_mem hi)
theorem BTx.cpy {m : Nat} {l bs : List Int32} {f : Nat → Int32} (h : BTx m l f) (hb : FB bs) (hm : l.length + bs.length ≤ m) : BTx m (l ++ bs) (va_cpy (fun j => bs.getD j 0) f 0 l.length bs.length) := by
  obtain ⟨h1, h2, h3, h4⟩ := h
  refine ⟨h1, by rw [List.length_append]; exact hm, fun i hi => ?_, fun i hi => ?_⟩
  · unfold va_cpy
    by_cases z : l.length ≤ i ∧ i < l.length + bs.length
    · rw [if_pos z, Nat.zero_add]
      exact getD_fit hb (by omega)
    · rw [if_neg z]
      exact h3 i hi
  · rw [List.length_append] at hi
    rw [getD_app]
    unfold va_cpy
    by_cases z : i < l.length
    · rw [if_pos z, if_neg (by omega)]
      exact h4 i z
    · rw [if_neg z, if_pos (by omega), Nat.zero_add]
theorem wrS_val : ∀ (xs : List Int32) (k : Nat) (f : Nat → Int32) (j : Nat), wrS f k xs j = if k ≤ j ∧ j < k + xs.length then xs.getD (j - k) 0 else f j
  | [], k, f, j => by
    rw [if_neg (by simp only [List.length_nil]; omega)]
    rfl
  | x :: xs, k, f, j => by
    show wrS (upd f k x) (k + 1) xs j = _
    rw [wrS_val xs (k + 1) (upd f k x) j]
    by_cases e : j = k
    · subst e
      rw [if_neg (by omega), m_updS, if_pos (by simp only [List.length_cons]; omega), Nat.sub_self]
      rfl
    · by_cases z : k + 1 ≤ j ∧ j < k + 1 + xs.length
      · rw [if_pos z, if_pos (by simp only [List.length_cons]; omega), show j - k = (j - (k + 1)) + 1 from by omega]
        rfl
      · rw [if_neg z, m_updN e, if_neg (by simp only [List.length_cons]; omega)]
theorem BTx.wr {m : Nat} {l bs : List Int32} {f : Nat → Int32} (h : BTx m l f) (hb : FB bs) (hm : l.length + bs.length ≤ m) : BTx m (l ++ bs) (wrS f l.length bs) := by
  have e : wrS f l.length bs = va_cpy (fun j => bs.getD j 0) f 0 l.length bs.length := by
    funext j
    rw [wrS_val]
    unfold va_cpy
    by_cases z : l.length ≤ j ∧ j < l.length + bs.length
    · rw [if_pos z, if_pos z, Nat.zero_add]
    · rw [if_neg z, if_neg z]
  rw [e]
  exact h.cpy hb hm
theorem BTx.grow {l : List Int32} {f : Nat → Int32} (h : BTx 16 l f) : BTx 34 l (va_cpy f (fun _ => 0) 0 0 16) := by
  obtain ⟨h1, h2, h3, h4⟩ := h
  refine ⟨Or.inr rfl, by omega, fun i hi => ?_, fun i hi => ?_⟩
  · unfold va_cpy
    by_cases z : 0 ≤ i ∧ i < 0 + 16
    · rw [if_pos z, Nat.zero_add, Nat.sub_zero]
      exact h3 i (by omega)
    · rw [if_neg z]
      show fits .byte (.int 0) = true
      decide
  · unfold va_cpy
    rw [if_pos (by omega), Nat.zero_add, Nat.sub_zero]
    exact h4 i hi
abbrev sbW (cy : Nat → ClassId) (sb vb m : Nat) (ml : Int32) (n : Nat) (f : Nat → Int32) : va_W := [(sb, .inr (1, [.ref vb, .int 0, .int ml, .int (nI n)])), (vb, .inl (cy 0, m, .inl f))]
theorem shl0 {n : Nat} (h : n < 2 ^ 32) : nI n <<< ((0 : Int32) &&& 31) = nI n := (pk_shlN _ 0 (by decide) (by rw [Nat.pow_zero, Nat.mul_one]; exact h)).trans (by rw [Nat.pow_zero, Nat.mul_one])
theorem shr0 {n : Nat} (h : n < 2 ^ 31) : nI n >>> ((0 : Int32) &&& 31) = nI n := (pk_shrN h _ 0 (by decide)).trans (by rw [Nat.pow_zero, Nat.div_one])
theorem sub_n {a b : Nat} (h : b ≤ a) (ha : a < 2147483648) : nI a - nI b = nI (a - b) := by
  apply Int32.toInt_inj.mp
  rw [ti_sub (nI_toInt (show a < 2 ^ 31 by omega)) (nI_toInt (show b < 2 ^ 31 by omega)) (by omega) (by omega), nI_toInt (by omega)]
  omega
theorem max18 {g : Nat} (h : g ≤ 18) : (if nI g < nI 18 then nI 18 else nI g) = nI 18 := by
  by_cases z : g < 18
  · rw [if_pos ((nI_ltI (by omega) (by omega)).mpr z)]
  · rw [if_neg (fun q => z ((nI_ltI (by omega) (by omega)).mp q)), show g = 18 from by omega]
theorem hi_J4 : ∀ w ∈ wsJ40, w ∈ wsL_law := big_row 57 rfl
theorem hi_J0 : ∀ w ∈ wsJ00, w ∈ wsL_law := big_row 62 rfl
/-- a made string, read as the literals are -/
theorem strI.of {cy : Nat → ClassId} {G : va_G} {A : Nat → Prop} {s : State} {args : Array Value} {H : Heap} {ws : va_W} {x y n : Nat} {g : Nat → Int32} {v2 v3 : Value} {bs : List Int32} (ht : ∀ w ∈ wsL_law, w.before args s = true) (hK : KK G cy s) (hP : va_P G vwCl ws H) (i j : Nat) (hi : ws[i]? = some (x, .inr (0, [.ref y, .int 0, v2, v3]))) (hj : ws[j]? = some (y, .inl (cy 0, n, .inl g))) (hn : bs.length = n) (hn9 : n < 1000) (hg : ∀ k, k < n → g k = bs.getD k 0) (hx : ¬ A x) (hy : ¬ A y) : strI bs.length bs x y A s H := by
  obtain ⟨r, h1, cell, q1, q2, q3, q4⟩ := hP i _ hi
  have hr : r = (RJ0, TJ0, 4) := (Option.some.inj (h1.symm.trans (show vwCl[0]? = some (RJ0, TJ0, 4) from rfl)))
  subst hr
  obtain ⟨hSl, hfc, kC, hkC, hkind⟩ := hK.1.1 0 _ rfl
  have f0 : ∀ k (hk : k < 4) (v : Value), vp_V [.ref y, .int 0, v2, v3] k = v → va_OF "java/lang/String" (TJ0 k).2.1 (TJ0 k).2.2.1 v x A s H := by
    intro k hk v hv
    obtain ⟨cf, kf, fi, f, hif, hsl⟩ := hSl k hk
    have hcl : (TJ0 k).1 = "java/lang/String" := by
      match k with
      | 0 => rfl
      | 1 => rfl
      | 2 => rfl
      | 3 => rfl
      | k + 4 => omega
    rw [hcl] at hif
    refine ⟨cf, kf, fi, f, cell, hif, (u_facts hfc hkC (u_lays ht hi_J0 hk) (by rw [hcl]; exact hif)).1, q1, by rw [q3]; exact (fun h => by cases h), ?_, hx⟩
    rw [hsl, q4 k hk, hv]
  have hyc := hP j _ hj
  refine ⟨⟨cell, q1, by rw [q3]; rfl, by rw [q2]; exact hfc, hx⟩, f0 1 (by decide) _ rfl, f0 0 (by decide) _ rfl, ?_⟩
  obtain ⟨hno, ha⟩ := (hK.1.2 0 (cy 0, .byte) rfl).1 n (fun j => .int (g j))
  refine ⟨_, hyc, ⟨hno, ha⟩, (fun h => by cases h), ?_, ?_, ?_, hy⟩
  · show bs.length ≤ (arrV _ _ _).slots.size
    rw [arrV_size, hn]
    exact Nat.le_refl _
  · show (arrV _ _ _).slots.size.toInt32 = _
    rw [arrV_size, hn]
  · intro k hk
    show (arrV _ _ _).slots[k]? = _
    rw [arrV_read _ _ (show k < n by omega), hg k (show k < n by omega)]
