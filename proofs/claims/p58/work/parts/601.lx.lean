/-! the law's contracts, and the rows of their calls -/
/-- a method of the law over the object: for the answer r and what is seen then, R; at most k cells come -/
def LX (l : Launch) (y : MethodName) (F Lc k : Nat) (G : va_G) (cy : Nat → ClassId) (kS vS : Nat → Nat) (a : OA) (V : OV) (av : List Value) (R : OV → Value → Prop) : Prop := ∀ (u : OU) (sz : Nat), Met l y wsL_law { frames := F, cells := k, slots := 64 * k, locals := Lc } (va_Pc av (fun U => U.heap.size = sz ∧ PQ G cy kS vS (OW cy a V u) U ∧ va_D (fun _ => True) (OW cy a V u)))
  (fun _ st o t => ∃ (V' : OV) (r : Value) (u' : OU), R V' r ∧ o = .returned (some r) ∧ va_P G vwCl (OW cy a V' u') t.heap ∧ va_F (va_A (OW cy a V u) sz) st t) k (64 * k) (va_A (OW cy a V u) sz)
/-- the same with one answer -/
abbrev LQ (l : Launch) (y : MethodName) (F Lc k : Nat) (G : va_G) (cy : Nat → ClassId) (kS vS : Nat → Nat) (a : OA) (V V' : OV) (av : List Value) (r : Value) : Prop := LX l y F Lc k G cy kS vS a V av (fun V2 r2 => V2 = V' ∧ r2 = r)
abbrev lxZ (below : List Frame) (args : Array Value) (s : State) (G : va_G) (cy : Nat → ClassId) (a : OA) (V : OV) (u : OU) (R : OV → Value → Prop) (k : Nat) : State → Prop := MQ below (fun _ st o t => ∃ (V' : OV) (r : Value) (u' : OU), R V' r ∧ o = .returned (some r) ∧ va_P G vwCl (OW cy a V' u') t.heap ∧ va_F (va_A (OW cy a V u) s.heap.size) st t) args s k (64 * k) (va_A (OW cy a V u) s.heap.size)
theorem LX.mono {l : Launch} {y : MethodName} {F Lc k F' Lc' k' : Nat} {G : va_G} {cy : Nat → ClassId} {kS vS : Nat → Nat} {a : OA} {V : OV} {av : List Value} {R R' : OV → Value → Prop} (h : LX l y F Lc k G cy kS vS a V av R) (hF : F ≤ F') (hL : Lc ≤ Lc') (hk : k ≤ k') (hR : ∀ V' r, R V' r → R' V' r) : LX l y F' Lc' k' G cy kS vS a V av R' := fun u sz =>
  Met.conv (h u sz) (fun _ hw => hw) ⟨hF, hk, Nat.mul_le_mul_left 64 hk, hL⟩ (fun _ _ hp => hp) (fun _ _ _ _ _ ⟨V', r, u', q, z⟩ => ⟨V', r, u', hR V' r q, z⟩) hk (Nat.mul_le_mul_left 64 hk) (fun _ hq => hq)
theorem va_D.self58 {w : va_W} {A : Nat → Prop} {sz : Nat} (h : va_D A w) : va_D (va_A w sz) w := ⟨h.1, fun k q hk => Or.inl ⟨k, q.2, hk⟩⟩
theorem LX.ofW {l : Launch} {y : MethodName} {F Lc k : Nat} {G : va_G} {cy : Nat → ClassId} {kS vS : Nat → Nat} {a : OA} {V : OV} {av : List Value} {R : OV → Value → Prop} {cc : ByteArray} {maxL : Nat} {ret : Option FieldType} (hy : plainName y.cls = true) (hc : Cond.code y cc maxL ret ∈ wsL_law) (hn : (lg_sl av).length ≤ maxL)
    (body : ∀ (p : Program) (e : Env) (s : State) (m : MethodId) (below : List Frame) (meth : Method) (c : Code) (u : OU), CallFix p m c cc maxL s av.toArray wsL_law y.cls → meth.sig.returnType = ret → meth.locks = false → PQ G cy kS vS (OW cy a V u) s → va_D (va_A (OW cy a V u) s.heap.size) (OW cy a V u) → va_S (va_A (OW cy a V u) s.heap.size) s.heap s.heap [] → (∀ q, s.heap.size ≤ q → va_A (OW cy a V u) s.heap.size q) → ∀ ls : Array Slot, lv_has ls maxL (lv_args 0 av) →
      W p l e { frames := F, cells := k, slots := 64 * k, locals := Lc } s m av.toArray below meth c s.heap [] 0 0 (lxZ below av.toArray s G cy a V u R k) (F0 m 0 ls [])) : LX l y F Lc k G cy kS vS a V av R := by
  intro u sz
  refine Met.conv (ws := Cond.code y cc maxL ret :: wsL_law) (Met.ofW hy rfl ?_) (fun w hw => by rcases List.mem_cons.mp hw with e | e; exact e ▸ hc; exact e) ⟨Nat.le_refl _, Nat.le_refl _, Nat.le_refl _, Nat.le_refl _⟩ (fun _ _ hp => hp) (fun _ _ _ _ _ q => q) (Nat.le_refl _) (Nat.le_refl _) (fun _ hq => hq)
  intro p e s m args below meth c s₁ B hml hv
  obtain ⟨rfl, rfl, hP, hD⟩ := hv
  rw [lg_entry_eq]
  exact body p e s m below meth c u ⟨B.exec, B.bytes, hml, findClass_of_methodNamed B.named, fun w hw => atoms_spec B.pre w (List.mem_cons_of_mem _ hw)⟩ B.returns B.notSynchronized hP hD.self58 va_S.rf (fun q h => Or.inr h) _ (lv_entry av hn)
theorem Met.ofWX {l : Launch} {y : MethodName} {ws ws' : List Cond} {rm : Room} {Pc : Array Value → State → Prop} {Qc : Array Value → State → Outcome → State → Prop} {mc ms : Nat} {free : Addr → Prop} {cc : ByteArray} {maxL : Nat} {ret : Option FieldType} {hh : List (Nat × Nat × Nat × Nat)}
    (hy : plainName y.cls = true) (hw : ws = Cond.codeWith y cc maxL ret hh :: ws')
    (body : ∀ p e s m args below meth c s₁, BodyLoose p l y (headSpec ws rm) cc maxL ret e s m args below meth c s₁ → c.maxLocals = maxL → Pc args s →
      W p l e (headSpec ws rm).room s m args below meth c s.heap [] 0 0 (MQ below Qc args s mc ms free) (entryFrame m args maxL)) : Met l y ws rm Pc Qc mc ms free := by
  refine MetFree.of_bodyS (code := cc) (maxLocals := maxL) (ret := ret) hy ?_ ?_
  · intro args s m h hn
    obtain ⟨m9, meth, c, hn9, h1, h2, h3, h4, -, h5, h6, -⟩ := Cond.codeWith_spec (atoms_spec (ws := ws) h _ (by rw [hw]; exact List.mem_cons_self))
    cases hn.symm.trans hn9
    exact ⟨meth, c, h1, h2, h3, h4, h5, h6⟩
  · intro p e s m args below meth c s₁ B hml hP _
    have hh0 : s₁.heap = s.heap := by rw [B.state]; rfl
    obtain ⟨t, a1, o, b1, b2, b3⟩ := body p e s m args below meth c s₁ B hml hP s₁ hh0 (Stand.of_body B)
    exact ⟨t, o, a1, b1, b2, ⟨b3.1, b3.2⟩⟩
theorem LX.ofWX {l : Launch} {y : MethodName} {F Lc k : Nat} {G : va_G} {cy : Nat → ClassId} {kS vS : Nat → Nat} {a : OA} {V : OV} {av : List Value} {R : OV → Value → Prop} {cc : ByteArray} {maxL : Nat} {ret : Option FieldType} {hh : List (Nat × Nat × Nat × Nat)} (hy : plainName y.cls = true) (hc : Cond.codeWith y cc maxL ret hh ∈ wsL_law) (hn : (lg_sl av).length ≤ maxL)
    (body : ∀ (p : Program) (e : Env) (s : State) (m : MethodId) (below : List Frame) (meth : Method) (c : Code) (u : OU), CallFix p m c cc maxL s av.toArray wsL_law y.cls → meth.sig.returnType = ret → meth.locks = false → c.exceptionTable.toList = tableOf hh → PQ G cy kS vS (OW cy a V u) s → va_D (va_A (OW cy a V u) s.heap.size) (OW cy a V u) → va_S (va_A (OW cy a V u) s.heap.size) s.heap s.heap [] → (∀ q, s.heap.size ≤ q → va_A (OW cy a V u) s.heap.size q) → ∀ ls : Array Slot, lv_has ls maxL (lv_args 0 av) →
      W p l e { frames := F, cells := k, slots := 64 * k, locals := Lc } s m av.toArray below meth c s.heap [] 0 0 (lxZ below av.toArray s G cy a V u R k) (F0 m 0 ls [])) : LX l y F Lc k G cy kS vS a V av R := by
  intro u sz
  refine Met.conv (ws := Cond.codeWith y cc maxL ret hh :: wsL_law) (Met.ofWX hy rfl ?_) (fun w hw => by rcases List.mem_cons.mp hw with e | e; exact e ▸ hc; exact e) ⟨Nat.le_refl _, Nat.le_refl _, Nat.le_refl _, Nat.le_refl _⟩ (fun _ _ hp => hp) (fun _ _ _ _ _ q => q) (Nat.le_refl _) (Nat.le_refl _) (fun _ hq => hq)
  intro p e s m args below meth c s₁ B hml hv
  obtain ⟨rfl, rfl, hP, hD⟩ := hv
  rw [lg_entry_eq]
  exact body p e s m below meth c u ⟨B.exec, B.bytes, hml, findClass_of_methodNamed B.named, fun w hw => atoms_spec B.pre w (List.mem_cons_of_mem _ hw)⟩ B.returns B.notSynchronized (vx_table (x := y) B (atoms_spec (ws := Cond.codeWith y cc maxL ret hh :: wsL_law) B.pre _ List.mem_cons_self)) hP hD.self58 va_S.rf (fun q h => Or.inr h) _ (lv_entry av hn)
/-- a method of the class, said over the object, answers as a method of the law -/
theorem LX.ofWC {l : Launch} {y : MethodName} {F Lc : Nat} {G : va_G} {cy : Nat → ClassId} {kS vS : Nat → Nat} {a : OA} {V V' : OV} {av : List Value} {r : Value} (h : ∀ u : OU, ∃ u' : OU, WC l y wsL_law { frames := F, cells := 0, slots := 0, locals := Lc } G (PQ G cy kS vS (OW cy a V u)) av (OW cy a V u) (OW cy a V' u') (some r)) : LQ l y F Lc 0 G cy kS vS a V V' av r := by
  intro u sz
  obtain ⟨u', hM⟩ := h u
  unfold WC at hM
  exact Met.conv hM (fun _ hw => hw) ⟨Nat.le_refl _, Nat.le_refl _, Nat.le_refl _, Nat.le_refl _⟩ (fun _ _ ⟨ha, _, hp⟩ => ⟨ha, hp⟩) (fun _ _ _ _ _ ⟨ho, hp, hz, hk⟩ => ⟨V', r, u', ⟨rfl, rfl⟩, ho, hp, hz, fun q h1 h2 => hk q h1 (fun z => h2 (Or.inl z))⟩) (Nat.le_refl _) (Nat.le_refl _) (fun _ hq => Or.inl hq)
theorem OW_len {cy : Nat → ClassId} {a : OA} {V V' : OV} {u u' : OU} : (OW cy a V' u').length = (OW cy a V u).length := by
  have h := congrArg List.length (OW_fst (cy := cy) (a := a) (V := V) (V' := V') (u := u) (u' := u'))
  rwa [List.length_map, List.length_map] at h
theorem OW_poss {cy : Nat → ClassId} {a : OA} {V : OV} {u : OU} (ex : List va_W) : (poss (OW cy a V u :: ex) [0]).map (fun i => (fl (OW cy a V u :: ex))[i]?) = (OW cy a V u).map some := poss_F (cs := [OW cy a V u]) rfl
theorem OW_sets {cy : Nat → ClassId} {a : OA} {V V' : OV} {u u' : OU} (ex : List va_W) : wsets (fl (OW cy a V u :: ex)) (poss (OW cy a V u :: ex) [0]) (OW cy a V' u') = fl (OW cy a V' u' :: ex) := wsets_F (cs := [OW cy a V u]) (ns := [OW cy a V' u']) rfl (by decide) (by show [_] = [_]; rw [OW_len])
/-- the words of a call, among the law's -/
theorem bigB {R : Room} {s : State} {args : Array Value} {own : String} {index : Nat} {y : MethodName} {bytes : ByteArray} {maxL mc ms : Nat} {ret : Option FieldType} {rm : Room} (n : Nat) (ht : ∀ w ∈ wsL_law, w.before args s = true) (hl : Cond.methodLink own index y ∈ wsL_law) (hi : Cond.initialized y.cls ∈ wsL_law) (hc : Cond.code y bytes maxL ret ∈ wsL_law) (hrc : rm.cells = mc) (hrs : rm.slots = ms)
    (hd : y.cls ≠ "java/lang/invoke/MethodHandle" ∧ y.cls ≠ "java/lang/invoke/VarHandle" ∧ (parseMethodDescriptor y.desc).map (fun d => d.parameters.length) = some n) (hR : rm.frames + 1 ≤ R.frames ∧ 8 + (maxL + 11) + rm.locals ≤ R.locals) : CallB R s args own index y bytes maxL ret wsL_law rm mc ms n := by
  refine ⟨hrc, hrs, hR.1, hR.2, pay_in ht gBB, hc, ht _ hc, ht _ hi, ⟨hd.1, hd.2.1⟩, fun sig h => ?_, ht _ hl⟩
  have h2 := hd.2.2
  rw [h] at h2
  exact (Option.some.inj h2).symm
theorem bigV {R : Room} {s : State} {args : Array Value} {own C : String} {index : Nat} {y : MethodName} {bytes : ByteArray} {maxL mc ms : Nat} {ret : Option FieldType} {rm : Room} (n : Nat) (ht : ∀ w ∈ wsL_law, w.before args s = true) (hl : Cond.methodLink own index y ∈ wsL_law) (hi : Cond.initialized y.cls ∈ wsL_law) (hc : Cond.code y bytes maxL ret ∈ wsL_law) (hm : Cond.instanceMethod y ∈ wsL_law) (hs : Cond.selects C y y ∈ wsL_law) (hrc : rm.cells = mc) (hrs : rm.slots = ms)
    (hd : y.cls ≠ "java/lang/invoke/MethodHandle" ∧ y.cls ≠ "java/lang/invoke/VarHandle" ∧ (parseMethodDescriptor y.desc).map (fun d => d.parameters.length) = some n) (hR : rm.frames + 1 ≤ R.frames ∧ 8 + (maxL + 11) + rm.locals ≤ R.locals) : CallW R s args own C index y bytes maxL ret wsL_law rm mc ms n := ⟨bigB n ht hl hi hc hrc hrs hd hR, ht _ hm, ht _ hs⟩
theorem bigS {R : Room} {s : State} {args : Array Value} {own : String} {index : Nat} {y : MethodName} {bytes : ByteArray} {maxL mc ms : Nat} {ret : Option FieldType} {rm : Room} (n : Nat) (ht : ∀ w ∈ wsL_law, w.before args s = true) (hl : Cond.methodLink own index y ∈ wsL_law) (hi : Cond.initialized y.cls ∈ wsL_law) (hc : Cond.code y bytes maxL ret ∈ wsL_law) (hm : Cond.static y ∈ wsL_law) (hrc : rm.cells = mc) (hrs : rm.slots = ms)
    (hd : y.cls ≠ "java/lang/invoke/MethodHandle" ∧ y.cls ≠ "java/lang/invoke/VarHandle" ∧ (parseMethodDescriptor y.desc).map (fun d => d.parameters.length) = some n) (hR : rm.frames + 1 ≤ R.frames ∧ 8 + (maxL + 11) + rm.locals ≤ R.locals) : CallB R s args own index y bytes maxL ret wsL_law rm mc ms n ∧ (Cond.static y).before args s = true := ⟨bigB n ht hl hi hc hrc hrs hd hR, ht _ hm⟩
theorem bigSW {R : Room} {s : State} {args : Array Value} {own : String} {index : Nat} {y : MethodName} {bytes : ByteArray} {maxL mc ms : Nat} {ret : Option FieldType} {hh : List (Nat × Nat × Nat × Nat)} {rm : Room} (n : Nat) (ht : ∀ w ∈ wsL_law, w.before args s = true) (hl : Cond.methodLink own index y ∈ wsL_law) (hi : Cond.initialized y.cls ∈ wsL_law) (hc : Cond.codeWith y bytes maxL ret hh ∈ wsL_law) (hm : Cond.static y ∈ wsL_law) (hrc : rm.cells = mc) (hrs : rm.slots = ms)
    (hd : y.cls ≠ "java/lang/invoke/MethodHandle" ∧ y.cls ≠ "java/lang/invoke/VarHandle" ∧ (parseMethodDescriptor y.desc).map (fun d => d.parameters.length) = some n) (hR : rm.frames + 1 ≤ R.frames ∧ 8 + (maxL + 11) + rm.locals ≤ R.locals) : vx_CSW R s args own index y bytes maxL ret hh wsL_law rm mc ms n := by
  refine ⟨⟨hrc, hrs, hR.1, hR.2, pay_in ht gBB, hc⟩, ht _ hc, ht _ hi, ⟨hd.1, hd.2.1⟩, fun sig h => ?_, ht _ hl, ht _ hm⟩
  have h2 := hd.2.2
  rw [h] at h2
  exact (Option.some.inj h2).symm
section LXR
variable {p : Program} {l : Launch} {e : Env} {R0 : Room} {s : State} {m : MethodId} {args : Array Value} {below : List Frame} {meth : Method} {c : Code} {H H0 : Heap} {locs : List Loc} {cells slots : Nat} {Q : State → Prop}
variable {cc : ByteArray} {pc : Nat} {ls : Array Slot} {rest st0 : List Value} {G : va_G} {cy : Nat → ClassId} {kS vS : Nat → Nat} {A : Nat → Prop} {a : OA} {V : OV} {u : OU} {R : OV → Value → Prop} {ex : List va_W}
theorem lx_run {k : Nat} (hr : va_Run p l e R0 s m args below meth c H locs cells slots k (64 * k) (F0 m pc ls st0) rest (fun st oc t => ∃ (V' : OV) (r : Value) (u' : OU), R V' r ∧ oc = .returned (some r) ∧ va_P G vwCl (OW cy a V' u') t.heap ∧ va_F (va_A (OW cy a V u) H.size) st t) (va_A (OW cy a V u) H.size))
    (hP : va_P G vwCl (fl (OW cy a V u :: ex)) H) (hD : va_D A (fl (OW cy a V u :: ex))) (hS : va_S A H0 H locs) (hA : ∀ q, H0.size ≤ q → A q)
    (kk : ∀ (V' : OV) (r : Value) (u' : OU) (H1 : Heap) (locs1 : List Loc), R V' r → va_P G vwCl (fl (OW cy a V' u' :: ex)) H1 → va_D A (fl (OW cy a V' u' :: ex)) → va_S A H0 H1 locs1 → W p l e R0 s m args below meth c H1 locs1 (cells + k) (slots + 64 * k) Q (F0 m (pc + 3) ls (r :: rest))) : W p l e R0 s m args below meth c H locs cells slots Q (F0 m pc ls st0) := by
  intro T hT X
  obtain ⟨v, st₀, t, T', L, h0, X', hL, e1, e2, ⟨V', r, u', hR, hv, hp, hz, hk⟩, st⟩ := hr T hT X
  cases hv
  rw [h0] at hz hk
  have hC := OW_poss (cy := cy) (a := a) (V := V) (u := u) ex
  have hsub0 := wA_sub hD _ hC
  have hsub : ∀ q, va_A (OW cy a V u) H.size q → A q := by
    rintro q (h | h)
    · exact hsub0 q h
    · exact hA q (Nat.le_trans hS.1 h)
  obtain ⟨t2, a1, b1⟩ := kk V' r u' t.heap (locs ++ L) hR (OW_sets ex ▸ wsets_P hP hD _ hC OW_fst hp (fun q h1 h2 => hk q h1 (fun z => z.elim h2 (fun z => absurd h1 (Nat.not_lt.mpr z))))) (OW_sets ex ▸ va_D.same (wsets_fst hC OW_fst) hD)
    ⟨Nat.le_trans hS.1 hz, fun q q1 q2 => (hk q (Nat.lt_of_lt_of_le q1 hS.1) (fun z => q2 (hsub q z))).trans (hS.2.1 q q1 q2), fun q hq => by
      rcases List.mem_append.mp hq with h | h
      · exact hS.2.2 q h
      · exact hsub _ (hL q h)⟩ T' e1 X'
  exact ⟨t2, st t2 a1, b1⟩
variable {y : MethodName} {bytes : ByteArray} {maxL nL n index F Lc k : Nat} {ret : Option FieldType} {hh : List (Nat × Nat × Nat × Nat)} {Ts : List Cond} {own C : String} {As : List Value}
/-- the facts that a law's method holds of the tables -/
def LF (G : va_G) (cy : Nat → ClassId) (kS vS : Nat → Nat) (A : Nat → Prop) (s : State) : Prop := KK G cy s ∧ TZ A s ∧ XS A s ∧ SK kS vS A s ∧ DZ A s ∧ va_AOA .int s ∧ va_AO "BathLeague$State" s
theorem LF.pq {w : va_W} (h : LF G cy kS vS A s) (hS : va_S A s.heap H locs) (hA : ∀ q, s.heap.size ≤ q → A q) (hB : ∀ q, wA w q → A q) (hP : va_P G vwCl w H) : ∀ U : State, U.heap = H → s.WarmedH U.vm → PQ G cy kS vS w U := PQ.at h.2.2.1 h.2.1 h.2.2.2.1 h.2.2.2.2.1 h.2.2.2.2.2.1 h.2.2.2.2.2.2 hS (fun q hq => hq.elim (hB q) (fun z => hA q (Nat.le_trans hS.1 z))) h.1 hP
theorem lx_S (S : CallFix p m c cc nL s args Ts own) (hF : LF G cy kS vS A s) (hM : LX l y F Lc k G cy kS vS a V As R) (cw : CallB R0 s args own index y bytes maxL ret wsL_law { frames := F, cells := k, slots := 64 * k, locals := Lc } k (64 * k) n ∧ (Cond.static y).before args s = true)
    (hP : va_P G vwCl (fl (OW cy a V u :: ex)) H) (hD : va_D A (fl (OW cy a V u :: ex))) (hS : va_S A s.heap H locs) (hA : ∀ q, s.heap.size ≤ q → A q) (hn : As.length = n) (hsize : ls.size = nL) (hstack : st0 = As.reverse ++ rest) (hW : (rest.map fun v => v.category).sum ≤ 8) {MC : Nat} (hR : MC = R0.cells ∧ 64 * MC = R0.slots) (b : Nat) (hc : cells + (b + k) ≤ MC) (hs : slots + 64 * (b + k) ≤ 64 * MC) (hdg : decode cc pc = .ok (.invokestatic index, 3))
    (kk : ∀ (V' : OV) (r : Value) (u' : OU) (H1 : Heap) (locs1 : List Loc) (cells1 slots1 : Nat), R V' r → cells1 + b ≤ MC → slots1 + 64 * b ≤ 64 * MC → va_P G vwCl (fl (OW cy a V' u' :: ex)) H1 → va_D A (fl (OW cy a V' u' :: ex)) → va_S A s.heap H1 locs1 → W p l e R0 s m args below meth c H1 locs1 cells1 slots1 Q (F0 m (pc + 3) ls (r :: rest))) : W p l e R0 s m args below meth c H locs cells slots Q (F0 m pc ls st0) := by
  have hC := OW_poss (cy := cy) (a := a) (V := V) (u := u) ex
  have hsub0 := wA_sub hD _ hC
  have hPo := m_Ppart hP _ hC
  refine lx_run (va_runS S (hM u H.size) cw ⟨fun b2 U g mk q => ⟨q.1, q.2.1, PQ.blind U g mk b2 q.2.2.1, q.2.2.2⟩, fun U hU hW => ⟨rfl, by rw [hU], hF.pq hS hA hsub0 hPo U hU hW, m_Dpart hD _ (poss_nd (by decide)) hC⟩⟩ (g := F0 m pc ls st0) rfl hn hsize hstack (lv_room hW) hdg ⟨by rw [← hR.1]; omega, by rw [← hR.2]; omega⟩) hP hD hS hA (fun V' r u' H1 locs1 q hP hD hS => kk V' r u' H1 locs1 _ _ q (by omega) (by omega) hP hD hS)
theorem lx_SW (S : CallFix p m c cc nL s args Ts own) (hF : LF G cy kS vS A s) (hM : LX l y F Lc k G cy kS vS a V As R) (cw : vx_CSW R0 s args own index y bytes maxL ret hh wsL_law { frames := F, cells := k, slots := 64 * k, locals := Lc } k (64 * k) n)
    (hP : va_P G vwCl (fl (OW cy a V u :: ex)) H) (hD : va_D A (fl (OW cy a V u :: ex))) (hS : va_S A s.heap H locs) (hA : ∀ q, s.heap.size ≤ q → A q) (hn : As.length = n) (hsize : ls.size = nL) (hstack : st0 = As.reverse ++ rest) (hW : (rest.map fun v => v.category).sum ≤ 8) {MC : Nat} (hR : MC = R0.cells ∧ 64 * MC = R0.slots) (b : Nat) (hc : cells + (b + k) ≤ MC) (hs : slots + 64 * (b + k) ≤ 64 * MC) (hdg : decode cc pc = .ok (.invokestatic index, 3))
    (kk : ∀ (V' : OV) (r : Value) (u' : OU) (H1 : Heap) (locs1 : List Loc) (cells1 slots1 : Nat), R V' r → cells1 + b ≤ MC → slots1 + 64 * b ≤ 64 * MC → va_P G vwCl (fl (OW cy a V' u' :: ex)) H1 → va_D A (fl (OW cy a V' u' :: ex)) → va_S A s.heap H1 locs1 → W p l e R0 s m args below meth c H1 locs1 cells1 slots1 Q (F0 m (pc + 3) ls (r :: rest))) : W p l e R0 s m args below meth c H locs cells slots Q (F0 m pc ls st0) := by
  have hC := OW_poss (cy := cy) (a := a) (V := V) (u := u) ex
  have hsub0 := wA_sub hD _ hC
  have hPo := m_Ppart hP _ hC
  refine lx_run (vx_runSW S (hM u H.size) cw ⟨fun b2 U g mk q => ⟨q.1, q.2.1, PQ.blind U g mk b2 q.2.2.1, q.2.2.2⟩, fun U hU hW => ⟨rfl, by rw [hU], hF.pq hS hA hsub0 hPo U hU hW, m_Dpart hD _ (poss_nd (by decide)) hC⟩⟩ (g := F0 m pc ls st0) rfl hn hsize hstack (lv_room hW) hdg ⟨by rw [← hR.1]; omega, by rw [← hR.2]; omega⟩) hP hD hS hA (fun V' r u' H1 locs1 q hP hD hS => kk V' r u' H1 locs1 _ _ q (by omega) (by omega) hP hD hS)
theorem lx_V (S : CallFix p m c cc nL s args Ts own) (hF : LF G cy kS vS A s) (hM : LX l y F Lc k G cy kS vS a V (.ref a.aX :: As) R) (cw : CallW R0 s args own RX7 index y bytes maxL ret wsL_law { frames := F, cells := k, slots := 64 * k, locals := Lc } k (64 * k) n)
    (hP : va_P G vwCl (fl (OW cy a V u :: ex)) H) (hD : va_D A (fl (OW cy a V u :: ex))) (hS : va_S A s.heap H locs) (hA : ∀ q, s.heap.size ≤ q → A q) (hn : As.length = n) (hsize : ls.size = nL) (hstack : st0 = As.reverse ++ .ref a.aX :: rest) (hW : (rest.map fun v => v.category).sum ≤ 8) {MC : Nat} (hR : MC = R0.cells ∧ 64 * MC = R0.slots) (b : Nat) (hc : cells + (b + k) ≤ MC) (hs : slots + 64 * (b + k) ≤ 64 * MC) (hdg : decode cc pc = .ok (.invokevirtual index, 3))
    (kk : ∀ (V' : OV) (r : Value) (u' : OU) (H1 : Heap) (locs1 : List Loc) (cells1 slots1 : Nat), R V' r → cells1 + b ≤ MC → slots1 + 64 * b ≤ 64 * MC → va_P G vwCl (fl (OW cy a V' u' :: ex)) H1 → va_D A (fl (OW cy a V' u' :: ex)) → va_S A s.heap H1 locs1 → W p l e R0 s m args below meth c H1 locs1 cells1 slots1 Q (F0 m (pc + 3) ls (r :: rest))) : W p l e R0 s m args below meth c H locs cells slots Q (F0 m pc ls st0) := by
  have hC := OW_poss (cy := cy) (a := a) (V := V) (u := u) ex
  have hsub0 := wA_sub hD _ hC
  have hPo := m_Ppart hP _ hC
  refine lx_run (va_runV S (hM u H.size) cw ⟨fun b2 U g mk q => ⟨q.1, q.2.1, PQ.blind U g mk b2 q.2.2.1, q.2.2.2⟩, va_recv hF.1.1 hP (ci := 11) (q0 := 0) rfl (OW_at ex), fun U hU hW => ⟨rfl, by rw [hU], hF.pq hS hA hsub0 hPo U hU hW, m_Dpart hD _ (poss_nd (by decide)) hC⟩⟩ (g := F0 m pc ls st0) rfl hn hsize hstack (lv_room hW) hdg ⟨by rw [← hR.1]; omega, by rw [← hR.2]; omega⟩) hP hD hS hA (fun V' r u' H1 locs1 q hP hD hS => kk V' r u' H1 locs1 _ _ q (by omega) (by omega) hP hD hS)
/-- with one answer -/
theorem lq_S {V' : OV} {r : Value} (S : CallFix p m c cc nL s args Ts own) (hF : LF G cy kS vS A s) (hM : LQ l y F Lc k G cy kS vS a V V' As r) (cw : CallB R0 s args own index y bytes maxL ret wsL_law { frames := F, cells := k, slots := 64 * k, locals := Lc } k (64 * k) n ∧ (Cond.static y).before args s = true)
    (hP : va_P G vwCl (fl (OW cy a V u :: ex)) H) (hD : va_D A (fl (OW cy a V u :: ex))) (hS : va_S A s.heap H locs) (hA : ∀ q, s.heap.size ≤ q → A q) (hn : As.length = n) (hsize : ls.size = nL) (hstack : st0 = As.reverse ++ rest) (hW : (rest.map fun v => v.category).sum ≤ 8) {MC : Nat} (hR : MC = R0.cells ∧ 64 * MC = R0.slots) (b : Nat) (hc : cells + (b + k) ≤ MC) (hs : slots + 64 * (b + k) ≤ 64 * MC) (hdg : decode cc pc = .ok (.invokestatic index, 3))
    (kk : ∀ (u' : OU) (H1 : Heap) (locs1 : List Loc) (cells1 slots1 : Nat), cells1 + b ≤ MC → slots1 + 64 * b ≤ 64 * MC → va_P G vwCl (fl (OW cy a V' u' :: ex)) H1 → va_D A (fl (OW cy a V' u' :: ex)) → va_S A s.heap H1 locs1 → W p l e R0 s m args below meth c H1 locs1 cells1 slots1 Q (F0 m (pc + 3) ls (r :: rest))) : W p l e R0 s m args below meth c H locs cells slots Q (F0 m pc ls st0) :=
  lx_S S hF hM cw hP hD hS hA hn hsize hstack hW hR b hc hs hdg (fun V2 r2 u' H1 locs1 c1 s1 ⟨e1, e2⟩ h1 h2 hP hD hS => by subst e1; subst e2; exact kk u' H1 locs1 c1 s1 h1 h2 hP hD hS)
theorem lq_SW {V' : OV} {r : Value} (S : CallFix p m c cc nL s args Ts own) (hF : LF G cy kS vS A s) (hM : LQ l y F Lc k G cy kS vS a V V' As r) (cw : vx_CSW R0 s args own index y bytes maxL ret hh wsL_law { frames := F, cells := k, slots := 64 * k, locals := Lc } k (64 * k) n)
    (hP : va_P G vwCl (fl (OW cy a V u :: ex)) H) (hD : va_D A (fl (OW cy a V u :: ex))) (hS : va_S A s.heap H locs) (hA : ∀ q, s.heap.size ≤ q → A q) (hn : As.length = n) (hsize : ls.size = nL) (hstack : st0 = As.reverse ++ rest) (hW : (rest.map fun v => v.category).sum ≤ 8) {MC : Nat} (hR : MC = R0.cells ∧ 64 * MC = R0.slots) (b : Nat) (hc : cells + (b + k) ≤ MC) (hs : slots + 64 * (b + k) ≤ 64 * MC) (hdg : decode cc pc = .ok (.invokestatic index, 3))
    (kk : ∀ (u' : OU) (H1 : Heap) (locs1 : List Loc) (cells1 slots1 : Nat), cells1 + b ≤ MC → slots1 + 64 * b ≤ 64 * MC → va_P G vwCl (fl (OW cy a V' u' :: ex)) H1 → va_D A (fl (OW cy a V' u' :: ex)) → va_S A s.heap H1 locs1 → W p l e R0 s m args below meth c H1 locs1 cells1 slots1 Q (F0 m (pc + 3) ls (r :: rest))) : W p l e R0 s m args below meth c H locs cells slots Q (F0 m pc ls st0) :=
  lx_SW S hF hM cw hP hD hS hA hn hsize hstack hW hR b hc hs hdg (fun V2 r2 u' H1 locs1 c1 s1 ⟨e1, e2⟩ h1 h2 hP hD hS => by subst e1; subst e2; exact kk u' H1 locs1 c1 s1 h1 h2 hP hD hS)
theorem lq_V {V' : OV} {r : Value} (S : CallFix p m c cc nL s args Ts own) (hF : LF G cy kS vS A s) (hM : LQ l y F Lc k G cy kS vS a V V' (.ref a.aX :: As) r) (cw : CallW R0 s args own RX7 index y bytes maxL ret wsL_law { frames := F, cells := k, slots := 64 * k, locals := Lc } k (64 * k) n)
    (hP : va_P G vwCl (fl (OW cy a V u :: ex)) H) (hD : va_D A (fl (OW cy a V u :: ex))) (hS : va_S A s.heap H locs) (hA : ∀ q, s.heap.size ≤ q → A q) (hn : As.length = n) (hsize : ls.size = nL) (hstack : st0 = As.reverse ++ .ref a.aX :: rest) (hW : (rest.map fun v => v.category).sum ≤ 8) {MC : Nat} (hR : MC = R0.cells ∧ 64 * MC = R0.slots) (b : Nat) (hc : cells + (b + k) ≤ MC) (hs : slots + 64 * (b + k) ≤ 64 * MC) (hdg : decode cc pc = .ok (.invokevirtual index, 3))
    (kk : ∀ (u' : OU) (H1 : Heap) (locs1 : List Loc) (cells1 slots1 : Nat), cells1 + b ≤ MC → slots1 + 64 * b ≤ 64 * MC → va_P G vwCl (fl (OW cy a V' u' :: ex)) H1 → va_D A (fl (OW cy a V' u' :: ex)) → va_S A s.heap H1 locs1 → W p l e R0 s m args below meth c H1 locs1 cells1 slots1 Q (F0 m (pc + 3) ls (r :: rest))) : W p l e R0 s m args below meth c H locs cells slots Q (F0 m pc ls st0) :=
  lx_V S hF hM cw hP hD hS hA hn hsize hstack hW hR b hc hs hdg (fun V2 r2 u' H1 locs1 c1 s1 ⟨e1, e2⟩ h1 h2 hP hD hS => by subst e1; subst e2; exact kk u' H1 locs1 c1 s1 h1 h2 hP hD hS)
/-- the ends: the world may have more cells behind the object's -/
theorem OW_pre (ex : List va_W) (hP : va_P G vwCl (fl (OW cy a V u :: ex)) H) : va_P G vwCl (OW cy a V u) H := m_Ppart hP _ (OW_poss ex)
theorem lx_zret {V0 : OV} {u0 : OU} {v : Int32} {ty : FieldType} (hx : p.tables.exec = Jvm.exec) (hb : c.code = cc) (hr : meth.sig.returnType = some ty) (hlocks : meth.locks = false) (hn : narrow ty (.int v) = .int v) (hR : R V (.int v)) (hP : va_P G vwCl (fl (OW cy a V u :: ex)) H) (hS : va_S (va_A (OW cy a V0 u0) s.heap.size) s.heap H locs) (hc : cells ≤ k) (hs : slots ≤ 64 * k) (hdg : decode cc pc = .ok (.ireturn, 1)) : W p l e R0 s m args below meth c H locs cells slots (lxZ below args s G cy a V0 u0 R k) (F0 m pc ls [.int v]) :=
  W.widen hc hs (W.zret hx hb hr hn (fun t ht _ => ⟨V, _, u, hR, rfl, by rw [ht]; exact OW_pre ex hP, hS.F ht⟩) hS.2.2 hdg hlocks)
theorem lx_iret {V0 : OV} {u0 : OU} {v : Int32} (hx : p.tables.exec = Jvm.exec) (hb : c.code = cc) (hr : meth.sig.returnType = some .int) (hlocks : meth.locks = false) (hR : R V (.int v)) (hP : va_P G vwCl (fl (OW cy a V u :: ex)) H) (hS : va_S (va_A (OW cy a V0 u0) s.heap.size) s.heap H locs) (hc : cells ≤ k) (hs : slots ≤ 64 * k) (hdg : decode cc pc = .ok (.ireturn, 1)) : W p l e R0 s m args below meth c H locs cells slots (lxZ below args s G cy a V0 u0 R k) (F0 m pc ls [.int v]) :=
  W.widen hc hs (W.iret hx hb hr (fun t ht _ => ⟨V, _, u, hR, rfl, by rw [ht]; exact OW_pre ex hP, hS.F ht⟩) hS.2.2 hdg hlocks)
theorem lx_lret {V0 : OV} {u0 : OU} {v : Int64} (hx : p.tables.exec = Jvm.exec) (hb : c.code = cc) (hr : meth.sig.returnType = some .long) (hlocks : meth.locks = false) (hR : R V (.long v)) (hP : va_P G vwCl (fl (OW cy a V u :: ex)) H) (hS : va_S (va_A (OW cy a V0 u0) s.heap.size) s.heap H locs) (hc : cells ≤ k) (hs : slots ≤ 64 * k) (hdg : decode cc pc = .ok (.lreturn, 1)) : W p l e R0 s m args below meth c H locs cells slots (lxZ below args s G cy a V0 u0 R k) (F0 m pc ls [.long v]) :=
  W.widen hc hs (W.lret hx hb hr (fun t ht _ => ⟨V, _, u, hR, rfl, by rw [ht]; exact OW_pre ex hP, hS.F ht⟩) hS.2.2 hdg hlocks)
/-- inside a wrapper: the class's method as it stands, returning or throwing -/
theorem wr_V {V' : OV} {u' : OU} {r : Value} {rm : Room} (S : CallFix p m c cc nL s args Ts own) (hF : LF G cy kS vS A s) (hM : WC l y wsL_law rm G (PQ G cy kS vS (OW cy a V u)) (.ref a.aX :: As) (OW cy a V u) (OW cy a V' u') (some r)) (cw : CallW R0 s args own RX7 index y bytes maxL ret wsL_law rm 0 0 n)
    (hP : va_P G vwCl (OW cy a V u) H) (hD : va_D A (OW cy a V u)) (hS : va_S A s.heap H locs) (hA : ∀ q, s.heap.size ≤ q → A q) (hn : As.length = n) (hsize : ls.size = nL) (hstack : st0 = As.reverse ++ .ref a.aX :: rest) (hW : (rest.map fun v => v.category).sum ≤ 8) (hf : cells ≤ R0.cells ∧ slots ≤ R0.slots) (hdg : decode cc pc = .ok (.invokevirtual index, 3))
    (kk : ∀ (H1 : Heap) (locs1 : List Loc), va_P G vwCl (OW cy a V' u') H1 → va_D A (OW cy a V' u') → va_S A s.heap H1 locs1 → W p l e R0 s m args below meth c H1 locs1 cells slots Q (F0 m (pc + 3) ls (r :: rest))) : W p l e R0 s m args below meth c H locs cells slots Q (F0 m pc ls st0) := by
  have hC : (poss [OW cy a V u] [0]).map (fun i => (OW cy a V u)[i]?) = (OW cy a V u).map some := OW_poss []
  have hM2 := hM
  unfold WC at hM2
  exact m_wc (va_runV S hM2 cw ⟨fun b2 U g mk q => ⟨q.1, PQ.blind U g mk b2 q.2.1, q.2.2⟩, va_recv hF.1.1 hP (ci := 11) (q0 := 0) rfl (OW_at (u := u) []), fun U hU hW => ⟨rfl, hF.pq hS hA (wA_sub hD _ hC) hP U hU hW, m_Dpart hD _ (poss_nd (by decide)) hC⟩⟩ (g := F0 m pc ls st0) rfl hn hsize hstack (lv_room hW) hdg hf) hP hD hS _ hC OW_fst (OW_sets []) kk
theorem wr_T {V' : OV} {u' : OU} {E : String} {rm : Room} (S : CallFix p m c cc nL s args Ts own) (hF : LF G cy kS vS A s) (hM : TX l y wsL_law rm G (PQ G cy kS vS (OW cy a V u)) (.ref a.aX :: As) (OW cy a V u) (OW cy a V' u') E) (cw : CallW R0 s args own RX7 index y bytes maxL ret wsL_law rm 1 6 n)
    (hP : va_P G vwCl (OW cy a V u) H) (hD : va_D A (OW cy a V u)) (hS : va_S A s.heap H locs) (hA : ∀ q, s.heap.size ≤ q → A q) (hn : As.length = n) (hsize : ls.size = nL) (hstack : st0 = As.reverse ++ .ref a.aX :: rest) (hW : (rest.map fun v => v.category).sum ≤ 8) (hf : cells + 1 ≤ R0.cells ∧ slots + 6 ≤ R0.slots) (hdg : decode cc pc = .ok (.invokevirtual index, 3))
    (pre : List ExceptionTableEntry) (x : ExceptionTableEntry) (suf : List ExceptionTableEntry) (hsplit : c.exceptionTable.toList = pre ++ x :: suf) (hpass : ∀ z ∈ pre, covers z pc = false ∨ (z.catchType ≠ 0 ∧ ∃ nm : String, (Cond.classLink own z.catchType nm).before args s = true ∧ va_Nc E nm s)) (hx : covers x pc = true) (h0 : x.catchType ≠ 0) (hlink : (Cond.classLink own x.catchType E).before args s = true) (hcast : va_Nw (.castable E E) s)
    (kk : ∀ (H1 : Heap) (locs1 : List Loc) (q : Addr), va_P G vwCl (OW cy a V' u') H1 → va_D A (OW cy a V' u') → va_S A s.heap H1 locs1 → W p l e R0 s m args below meth c H1 locs1 (cells + 1) (slots + 6) Q (F0 m x.handlerPc ls [.ref q])) : W p l e R0 s m args below meth c H locs cells slots Q (F0 m pc ls st0) :=
  have hC : (poss [OW cy a V u] [0]).map (fun i => (OW cy a V u)[i]?) = (OW cy a V u).map some := OW_poss []
  c_tcV S hM cw PQ.blind (va_recv hF.1.1 hP (ci := 11) (q0 := 0) rfl (OW_at (u := u) [])) (hF.pq hS hA (wA_sub hD _ hC) hP) hP hD hS _ hC (poss_nd (by decide)) OW_fst (OW_sets []) hn hsize hstack hW hf hdg pre x suf hsplit hpass hx h0 hlink hcast kk
end LXR
theorem LF.mk {G : va_G} {cy : Nat → ClassId} {kS vS : Nat → Nat} {w : va_W} {s : State} (h : PQ G cy kS vS w s) : LF G cy kS vS (va_A w s.heap.size) s := ⟨h.1.2, h.2⟩
