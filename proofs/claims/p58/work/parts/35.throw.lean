/-! methods that throw: what they take of the tables, their contracts, their rows -/
abbrev xIOB : String := "java/lang/IndexOutOfBoundsException"
abbrev xIAE : String := "java/lang/IllegalArgumentException"
abbrev xISE : String := "java/lang/IllegalStateException"
abbrev xNSE : String := "java/util/NoSuchElementException"
abbrev xUOE : String := "java/lang/UnsupportedOperationException"
abbrev xARE : String := "java/lang/ArithmeticException"
abbrev nmS : List String := ["java/lang/RuntimeException", "java/lang/Exception"]
def castW : List Cond := [.castable xIOB xIOB, .castable xIAE xIAE, .castable xISE xISE, .castable xNSE xNSE, .castable xUOE xUOE, .castable xARE xARE, .declares (Bundle.initS "java/lang/RuntimeException"), .declares (Bundle.initS "java/lang/Exception"), .declares (Bundle.initS "java/lang/Throwable"), .classLink RL 14 xISE, .classLink RL 20 xIOB, .classLink RL 22 xIAE, .classLink RL 24 xUOE, .classLink RL 33 xNSE]
theorem castW_tab : ∀ w ∈ castW, w.onTables = true := by decide +kernel
theorem nw_decl {x : MethodName} {s U : State} (hW : s.WarmedH U.vm) (hZ : va_Nw (.declares x) s) : va_Nw (.declares x) U := va_tabs rfl (rfl : (s.setVm U.vm).vm = U.vm) (by rw [Cond.declares_setVm hW.alike]; exact hZ)
theorem nw_link {own E : String} {k : Nat} {s U : State} (hW : s.WarmedH U.vm) (hZ : va_Nw (.classLink own k E) s) : va_Nw (.classLink own k E) U := va_tabs (A := #[]) rfl (rfl : (s.setVm U.vm).vm = U.vm) (by
  have h9 := State.classLinks_warmed hW own k E
  show ((s.setVm U.vm).classLinks own k E == some true) = true
  rw [h9]
  exact hZ)
def ncX : List (String × String) := [(xIOB, xIAE), (xIOB, xISE), (xIOB, xNSE), (xIOB, xUOE), (xIAE, xIOB), (xIAE, xISE), (xIAE, xNSE), (xIAE, xUOE), (xISE, xIOB), (xISE, xIAE), (xISE, xNSE), (xISE, xUOE), (xNSE, xIOB), (xNSE, xIAE), (xNSE, xISE), (xNSE, xUOE), (xUOE, xIOB), (xUOE, xIAE), (xUOE, xISE), (xUOE, xNSE), (xARE, xIOB), (xARE, xIAE), (xARE, xISE), (xARE, xNSE), (xARE, xUOE)]
def strX : List (Nat × String) := [(197, "no member has water"), (208, "fewer than 2 members have water"), (216, "the bath is not a member"), (225, "the bath stays a member"), (229, "the number of ticks is not between 0 and 60"), (276, "the event is neither a tap nor a pouring"), (295, "there are no ducks"), (330, "the output text has no such index"), (337, "the character code is not between 32 and 126"), (341, "the script buffer is full"), (358, "the script does not have the required form"), (364, "a command failed"), (374, "there is nothing to undo"), (384, "there is no such bath"), (386, "an argument is out of its range"), (388, "the state does not allow this"), (390, "there is not enough water"), (394, "the bath does not allow this"), (400, "the bath has no water"), (402, "there is no such duck"), (404, "there is no such rank or recency"), (409, "there is no such tap, or the target is not between 0 and 99"), (411, "no number of litres is enough")]
/-- the tables' part of a throw, and the two statics of Throwable, outside A -/
def XS (A : Nat → Prop) (U : State) : Prop := vx_Zq Bundle.tN "UNASSIGNED_STACK" Bundle.steD A U U.heap ∧ vx_Zq Bundle.tN "SUPPRESSED_SENTINEL" Bundle.listD A U U.heap ∧ (∀ w ∈ castW, va_Nw w U) ∧ (∀ q ∈ strX, ∃ a, vk_R RX7 q.1 q.2 a U) ∧ (∀ q ∈ ncX, va_Nc q.1 q.2 U)
theorem XS.blind {A : Nat → Prop} {U : State} {g : JFrame} {mk : MethodId} {a : Array Value} (h : XS A U) : XS A (U.calling g mk a) := by
  obtain ⟨h1, h2, h3, h4, h5⟩ := h
  refine ⟨vx_Zq.moved (u := U) (U := U.calling g mk a) (Vm.Alike.refl U.vm) h1, vx_Zq.moved (u := U) (U := U.calling g mk a) (Vm.Alike.refl U.vm) h2, fun w hw => ?_, fun q hq => ?_, fun q hq => ?_⟩
  · have h9 := h3 w hw
    simp only [castW, List.mem_cons, List.not_mem_nil, or_false] at hw
    rcases hw with rfl | rfl | rfl | rfl | rfl | rfl | rfl | rfl | rfl | rfl | rfl | rfl | rfl | rfl | rfl <;> exact va_Nw.same rfl (u := U) (U := U.calling g mk a) rfl h9
  · obtain ⟨a9, h9⟩ := h4 q hq
    exact ⟨a9, vk_R.same (u := U) (U := U.calling g mk a) rfl h9⟩
  · exact va_Nc.moved (u := U) (U := U.calling g mk a) (Vm.Alike.refl U.vm) (h5 q hq)
theorem XS.at {A B : Nat → Prop} {s : State} {H : Heap} {locs : List Loc} (h : XS A s) (hS : va_S A s.heap H locs) (hB : ∀ q, B q → A q) : ∀ U : State, U.heap = H → s.WarmedH U.vm → XS B U := by
  intro U hU hW
  obtain ⟨h1, h2, h3, h4, h5⟩ := h
  refine ⟨?_, ?_, fun w hw => ?_, fun q hq => ?_, fun q hq => va_Nc.moved hW.alike (h5 q hq)⟩
  · rw [hU]; exact ((h1.kept hS.2.1).narrow hB).moved hW.alike
  · rw [hU]; exact ((h2.kept hS.2.1).narrow hB).moved hW.alike
  · have h9 := h3 w hw
    simp only [castW, List.mem_cons, List.not_mem_nil, or_false] at hw
    rcases hw with rfl | rfl | rfl | rfl | rfl | rfl | rfl | rfl | rfl | rfl | rfl | rfl | rfl | rfl | rfl <;> first | exact va_Nw.warmC hW h9 | exact nw_decl hW h9 | exact nw_link hW h9
  · obtain ⟨a9, h9⟩ := h4 q hq
    exact ⟨a9, vk_R.warm hW h9⟩
theorem nwl {A : Nat → Prop} {args : Array Value} {s : State} (h : XS A s) (w : Cond) (hw : w ∈ castW) : w.before args s = true := va_Nw.use (castW_tab w hw) (h.2.2.1 w hw)
/-- the start of a method that may throw -/
def PX (G : va_G) (cy : Nat → ClassId) (w : va_W) : State → Prop := fun U => PT G cy w U ∧ XS (wA w) U
theorem PX.blind {G : va_G} {cy : Nat → ClassId} {w : va_W} : ∀ (U : State) (g : JFrame) (mk : MethodId) (a : Array Value), PX G cy w U → PX G cy w (U.calling g mk a) := fun U g mk a h => ⟨PT.blind U g mk a h.1, h.2.blind⟩
theorem PX.at {G : va_G} {cy : Nat → ClassId} {A : Nat → Prop} {w : va_W} {s : State} {H : Heap} {locs : List Loc} (hX : XS A s) (hT : TZ A s) (hS : va_S A s.heap H locs) (hB : ∀ q, wA w q → A q) (hK : KK G cy s) (hP : va_P G vwCl w H) : ∀ U : State, U.heap = H → s.WarmedH U.vm → PX G cy w U := fun U hU hW => ⟨PT.at hT hS hB hK hP U hU hW, hX.at hS hB U hU hW⟩
/-- a method that throws E: the cells w become w', one object is new -/
def TX (l : Launch) (y : MethodName) (ws : List Cond) (rm : Room) (G : va_G) (P : State → Prop) (av : List Value) (w w' : va_W) (E : String) : Prop := vx_Met l y ws rm (va_Pc av (fun U => P U ∧ va_D (fun _ => True) w)) (fun _ _ _ _ => False) (fun E1 st t => E1 = E ∧ va_P G vwCl w' t.heap ∧ va_F (wA w) st t) 1 6 (wA w)
abbrev txZ (below : List Frame) (a : Array Value) (s : State) (G : va_G) (w w' : va_W) (E : String) : State → Prop := vx_MQ below (fun _ _ _ _ => False) (fun E1 st t => E1 = E ∧ va_P G vwCl w' t.heap ∧ va_F (wA w) st t) a s 1 6 (wA w)
theorem TX.ofW {l : Launch} {y : MethodName} {ws ws' : List Cond} {rm : Room} {G : va_G} {P : State → Prop} {av : List Value} {w w' : va_W} {E : String} {cc : ByteArray} {maxL : Nat} {ret : Option FieldType} (hy : plainName y.cls = true) (hw : ws = Cond.code y cc maxL ret :: ws') (hn : (lg_sl av).length ≤ maxL)
    (body : ∀ (p : Program) (e : Env) (s : State) (m : MethodId) (below : List Frame) (meth : Method) (c : Code), CallFix p m c cc maxL s av.toArray ws y.cls → (∀ x ∈ c.exceptionTable.toList, False) → meth.locks = false → P s → va_D (wA w) w → va_S (wA w) s.heap s.heap [] → ∀ ls : Array Slot, lv_has ls maxL (lv_args 0 av) →
      W p l e rm s m av.toArray below meth c s.heap [] 0 0 (txZ below av.toArray s G w w' E) (F0 m 0 ls [])) : TX l y ws rm G P av w w' E := by
  refine vx_ofW hy hw ?_
  intro p e s m args below meth c s₁ B hml htb hv
  obtain ⟨rfl, hP, hD⟩ := hv
  rw [lg_entry_eq]
  exact body p e s m below meth c ⟨B.exec, B.bytes, hml, findClass_of_methodNamed B.named, atoms_spec B.pre⟩ htb B.notSynchronized hP hD.own va_S.rf _ (lv_entry av hn)
theorem m_Pk {G : va_G} {w : va_W} {H H1 : Heap} (hP : va_P G vwCl w H) (hk : ∀ q : Nat, q < H.size → H1[q]? = H[q]?) : va_P G vwCl w H1 := hP.kept fun k q hq => hk _ (hP k q hq).lt
/-- what a throw of E takes, of the tables' words of RX7 -/
def exI (E : String) (ik ic : Nat) : Prop := Bundle.fit E = true ∧ (∀ w ∈ Cond.classLink RX7 ik E :: Cond.initialized E :: vx_atS RX7 ic E nmS, vx_ot w = true) ∧ (∀ w ∈ (vx_atS RX7 ic E nmS).filter (fun w => !goodWord w), w ∈ castW) ∧ Cond.castable E E ∈ castW
theorem nm_fit : ∀ n ∈ nmS, Bundle.fit n = true := by decide +kernel
theorem exIOB : exI xIOB 328 332 := ⟨by decide +kernel, List.all_eq_true.mp (by decide +kernel), by decide +kernel, by decide +kernel⟩
theorem exIAE : exI xIAE 227 231 := ⟨by decide +kernel, List.all_eq_true.mp (by decide +kernel), by decide +kernel, by decide +kernel⟩
theorem exISE : exI xISE 214 218 := ⟨by decide +kernel, List.all_eq_true.mp (by decide +kernel), by decide +kernel, by decide +kernel⟩
def exIN (ik ic : Nat) : Prop := (∀ w ∈ Cond.classLink RX7 ik nsX :: Cond.initialized nsX :: nsW RX7 ic, vx_ot w = true) ∧ ∀ w ∈ (nsW RX7 ic).filter (fun w => !goodWord w), w ∈ castW
theorem exNSE : exIN 195 199 := ⟨List.all_eq_true.mp (by decide +kernel), by decide +kernel⟩
theorem exUOE : exI xUOE 392 396 := ⟨by decide +kernel, List.all_eq_true.mp (by decide +kernel), by decide +kernel, by decide +kernel⟩
theorem exARE : exI xARE 293 297 := ⟨by decide +kernel, List.all_eq_true.mp (by decide +kernel), by decide +kernel, by decide +kernel⟩
section TY
variable {p : Program} {l : Launch} {e : Env} {R : Room} {s : State} {m : MethodId} {args : Array Value} {below : List Frame} {meth : Method} {c : Code} {H : Heap} {locs : List Loc} {cells slots : Nat} {Q : State → Prop}
variable {cc : ByteArray} {pc : Nat} {ls : Array Slot} {rest st0 : List Value} {G : va_G} {cy : Nat → ClassId} {A : Nat → Prop} {ws : va_W} {H0 : Heap} {w w' : va_W} {E text : String}
theorem tx_new {nL ik is ic : Nat} {Ts : List Cond} (S : CallFix p m c cc nL s args Ts RX7) (hl9 : l.stackTraces = false) (hX : XS (wA w) s) (hE : exI E ik ic) (hst : (is, text) ∈ strX) (h0 : Cond.classLink RX7 ik E ∈ Ts) (h1 : Cond.initialized E ∈ Ts) (h2 : ∀ w ∈ (vx_atS RX7 ic E nmS).filter goodWord, w ∈ Ts)
    (htb : ∀ x ∈ c.exceptionTable.toList, False) (hlocks : meth.locks = false) (hP : va_P G vwCl w' H) (hS : va_S (wA w) s.heap H locs) (hsize : ls.size = nL)
    (d0 : decode cc pc = .ok (.new ik, 3)) (d3 : decode cc (pc + 3) = .ok (.dup, 1)) (d4 : decode cc (pc + 4) = .ok (.ldc is, 2)) (d6 : decode cc (pc + 6) = .ok (.invokespecial ic, 3)) (d9 : decode cc (pc + 9) = .ok (.athrow, 1)) (hR : 5 < R.frames ∧ (rest.map fun v => v.category).sum + 82 ≤ R.locals ∧ 1 ≤ R.cells ∧ 6 ≤ R.slots) :
    W p l e R s m args below meth c H locs 0 0 (txZ below args s G w w' E) (F0 m pc ls rest) := by
  obtain ⟨hx, hb, hml, hown, hts⟩ := S
  obtain ⟨hU, hN, hC, hT, -⟩ := hX
  obtain ⟨e1, e2, e3, e4⟩ := hE
  obtain ⟨sa, hstr⟩ := hT _ hst
  refine vx_throwS hx hb hl9 hown e1 nm_fit (hts _ h0) (hts _ h1) hstr (vx_hat (fun w hw => hts w (h2 w hw)) e3 (fun w hw => ?_)) e2 hU hN hS (hsize.trans hml.symm) d0 d3 d4 d6 d9 (fun x hx => (htb x hx).elim) hR.1 hR.2.1 (Nat.le_trans (Nat.le_of_eq (Nat.zero_add 1)) hR.2.2.1) (Nat.le_trans (Nat.le_of_eq (Nat.zero_add 6)) hR.2.2.2) hlocks (fun t ht hz hk => ⟨rfl, m_Pk hP hk, Nat.le_trans hS.1 hz, fun q q1 q2 => (hk q (Nat.lt_of_lt_of_le q1 hS.1)).trans (hS.2.1 q q1 q2)⟩) hS.2.2 (Nat.le_of_eq (Nat.zero_add 1)) (Nat.le_of_eq (Nat.zero_add 6))
  exact va_Nw.use (castW_tab w hw) (hC w hw)
theorem tx_newW {nL ik is ic : Nat} {Ts : List Cond} (S : CallFix p m c cc nL s args Ts RX7) (hl9 : l.stackTraces = false) (hX : XS (wA w) s) (hE : exI E ik ic) (hst : (is, text) ∈ strX) (h0 : Cond.classLink RX7 ik E ∈ Ts) (h1 : Cond.initialized E ∈ Ts) (h2 : ∀ w ∈ (vx_atS RX7 ic E nmS).filter goodWord, w ∈ Ts)
    (htb : ∀ x ∈ c.exceptionTable.toList, False) (hlocks : meth.locks = false) (hP : va_P G vwCl w' H) (hS : va_S (wA w) s.heap H locs) (hsize : ls.size = nL)
    (d0 : decode cc pc = .ok (.new ik, 3)) (d3 : decode cc (pc + 3) = .ok (.dup, 1)) (d4 : decode cc (pc + 4) = .ok (.ldc_w is, 3)) (d6 : decode cc (pc + 7) = .ok (.invokespecial ic, 3)) (d9 : decode cc (pc + 10) = .ok (.athrow, 1)) (hR : 5 < R.frames ∧ (rest.map fun v => v.category).sum + 82 ≤ R.locals ∧ 1 ≤ R.cells ∧ 6 ≤ R.slots) :
    W p l e R s m args below meth c H locs 0 0 (txZ below args s G w w' E) (F0 m pc ls rest) := by
  obtain ⟨hx, hb, hml, hown, hts⟩ := S
  obtain ⟨hU, hN, hC, hT, -⟩ := hX
  obtain ⟨e1, e2, e3, e4⟩ := hE
  obtain ⟨sa, hstr⟩ := hT _ hst
  refine vx_throwSW hx hb hl9 hown e1 nm_fit (hts _ h0) (hts _ h1) hstr (vx_hat (fun w hw => hts w (h2 w hw)) e3 (fun w hw => ?_)) e2 hU hN hS (hsize.trans hml.symm) d0 d3 d4 d6 d9 (fun x hx => (htb x hx).elim) hR.1 hR.2.1 (Nat.le_trans (Nat.le_of_eq (Nat.zero_add 1)) hR.2.2.1) (Nat.le_trans (Nat.le_of_eq (Nat.zero_add 6)) hR.2.2.2) hlocks (fun t ht hz hk => ⟨rfl, m_Pk hP hk, Nat.le_trans hS.1 hz, fun q q1 q2 => (hk q (Nat.lt_of_lt_of_le q1 hS.1)).trans (hS.2.1 q q1 q2)⟩) hS.2.2 (Nat.le_of_eq (Nat.zero_add 1)) (Nat.le_of_eq (Nat.zero_add 6))
  exact va_Nw.use (castW_tab w hw) (hC w hw)
theorem tx_newN {nL ik is ic : Nat} {Ts : List Cond} (S : CallFix p m c cc nL s args Ts RX7) (hl9 : l.stackTraces = false) (hX : XS (wA w) s) (hE : exIN ik ic) (hst : (is, text) ∈ strX) (h0 : Cond.classLink RX7 ik nsX ∈ Ts) (h1 : Cond.initialized nsX ∈ Ts) (h2 : ∀ w ∈ (nsW RX7 ic).filter goodWord, w ∈ Ts)
    (htb : ∀ x ∈ c.exceptionTable.toList, False) (hlocks : meth.locks = false) (hP : va_P G vwCl w' H) (hS : va_S (wA w) s.heap H locs) (hsize : ls.size = nL)
    (d0 : decode cc pc = .ok (.new ik, 3)) (d3 : decode cc (pc + 3) = .ok (.dup, 1)) (d4 : decode cc (pc + 4) = .ok (.ldc is, 2)) (d6 : decode cc (pc + 6) = .ok (.invokespecial ic, 3)) (d9 : decode cc (pc + 9) = .ok (.athrow, 1)) (hR : 5 < R.frames ∧ (rest.map fun v => v.category).sum + 82 ≤ R.locals ∧ 1 ≤ R.cells ∧ 6 ≤ R.slots) :
    W p l e R s m args below meth c H locs 0 0 (txZ below args s G w w' xNSE) (F0 m pc ls rest) := by
  obtain ⟨hx, hb, hml, hown, hts⟩ := S
  obtain ⟨hU, hN, hC, hT, -⟩ := hX
  obtain ⟨e2, e3⟩ := hE
  obtain ⟨sa, hstr⟩ := hT _ hst
  refine nsThrow hx hb hl9 hown (hts _ h0) (hts _ h1) hstr (vx_hat (fun w hw => hts w (h2 w hw)) e3 (fun w hw => ?_)) e2 hU hN hS (hsize.trans hml.symm) d0 d3 (Or.inl ⟨d4, rfl⟩) d6 d9 (fun x hx => (htb x hx).elim) hR.1 hR.2.1 (Nat.le_trans (Nat.le_of_eq (Nat.zero_add 1)) hR.2.2.1) (Nat.le_trans (Nat.le_of_eq (Nat.zero_add 6)) hR.2.2.2) hlocks (fun t ht hz hk => ⟨rfl, m_Pk hP hk, Nat.le_trans hS.1 hz, fun q q1 q2 => (hk q (Nat.lt_of_lt_of_le q1 hS.1)).trans (hS.2.1 q q1 q2)⟩) hS.2.2 (Nat.le_of_eq (Nat.zero_add 1)) (Nat.le_of_eq (Nat.zero_add 6))
  exact va_Nw.use (castW_tab w hw) (hC w hw)
theorem tx_newNW {nL ik is ic : Nat} {Ts : List Cond} (S : CallFix p m c cc nL s args Ts RX7) (hl9 : l.stackTraces = false) (hX : XS (wA w) s) (hE : exIN ik ic) (hst : (is, text) ∈ strX) (h0 : Cond.classLink RX7 ik nsX ∈ Ts) (h1 : Cond.initialized nsX ∈ Ts) (h2 : ∀ w ∈ (nsW RX7 ic).filter goodWord, w ∈ Ts)
    (htb : ∀ x ∈ c.exceptionTable.toList, False) (hlocks : meth.locks = false) (hP : va_P G vwCl w' H) (hS : va_S (wA w) s.heap H locs) (hsize : ls.size = nL)
    (d0 : decode cc pc = .ok (.new ik, 3)) (d3 : decode cc (pc + 3) = .ok (.dup, 1)) (d4 : decode cc (pc + 4) = .ok (.ldc_w is, 3)) (d6 : decode cc (pc + 7) = .ok (.invokespecial ic, 3)) (d9 : decode cc (pc + 10) = .ok (.athrow, 1)) (hR : 5 < R.frames ∧ (rest.map fun v => v.category).sum + 82 ≤ R.locals ∧ 1 ≤ R.cells ∧ 6 ≤ R.slots) :
    W p l e R s m args below meth c H locs 0 0 (txZ below args s G w w' xNSE) (F0 m pc ls rest) := by
  obtain ⟨hx, hb, hml, hown, hts⟩ := S
  obtain ⟨hU, hN, hC, hT, -⟩ := hX
  obtain ⟨e2, e3⟩ := hE
  obtain ⟨sa, hstr⟩ := hT _ hst
  refine nsThrow hx hb hl9 hown (hts _ h0) (hts _ h1) hstr (vx_hat (fun w hw => hts w (h2 w hw)) e3 (fun w hw => ?_)) e2 hU hN hS (hsize.trans hml.symm) d0 d3 (Or.inr ⟨d4, rfl⟩) d6 d9 (fun x hx => (htb x hx).elim) hR.1 hR.2.1 (Nat.le_trans (Nat.le_of_eq (Nat.zero_add 1)) hR.2.2.1) (Nat.le_trans (Nat.le_of_eq (Nat.zero_add 6)) hR.2.2.2) hlocks (fun t ht hz hk => ⟨rfl, m_Pk hP hk, Nat.le_trans hS.1 hz, fun q q1 q2 => (hk q (Nat.lt_of_lt_of_le q1 hS.1)).trans (hS.2.1 q q1 q2)⟩) hS.2.2 (Nat.le_of_eq (Nat.zero_add 1)) (Nat.le_of_eq (Nat.zero_add 6))
  exact va_Nw.use (castW_tab w hw) (hC w hw)
theorem m_tx {wc w1 : va_W} {ws' : va_W} (hr : vx_Run p l e R s m args below meth c H locs cells slots 1 6 (F0 m pc ls st0) rest (fun _ _ _ => False) (fun E1 st t => E1 = E ∧ va_P G vwCl w1 t.heap ∧ va_F (wA wc) st t) (wA wc)) (hP : va_P G vwCl ws H) (hD : va_D A ws) (hS : va_S A H0 H locs) (is : List Nat) (hC : is.map (fun i => ws[i]?) = wc.map some) (h1 : w1.map Prod.fst = wc.map Prod.fst) (hw : wsets ws is w1 = ws')
    (kk : ∀ (H1 : Heap) (locs1 : List Loc) (q : Addr) (ce : Cell), va_P G vwCl ws' H1 → va_D A ws' → va_S A H0 H1 locs1 → H1[q]? = some ce → ce.vm = .none → s.vm.findClass E = some ce.cls → vx_W p l e R s m args below meth c H1 locs1 (cells + 1) (slots + 6) Q (F0 m pc ls rest) q) : W p l e R s m args below meth c H locs cells slots Q (F0 m pc ls st0) := by
  intro T hT X
  rcases hr T hT X with ⟨v, st₀, t, T', L, h0, X', hL, e1, e2, hf, st⟩ | ⟨q, st₀, t, T', L, E2, ce, h0, X', hL, e1, e2, ⟨rfl, hp, hz, hk⟩, hce, hcv, hcl, st⟩
  · exact hf.elim
  · rw [h0] at hz hk
    have hsub := wA_sub hD is hC
    obtain ⟨t2, a1, b1⟩ := kk t.heap (locs ++ L) q ce (hw ▸ wsets_P hP hD is hC h1 hp hk) (hw ▸ va_D.same (wsets_fst hC h1) hD)
      ⟨Nat.le_trans hS.1 hz, fun q q1 q2 => (hk q (Nat.lt_of_lt_of_le q1 hS.1) (fun z => q2 (hsub q z))).trans (hS.2.1 q q1 q2), fun q hq => by
        rcases List.mem_append.mp hq with h | h
        · exact hS.2.2 q h
        · exact hsub _ (hL q h)⟩ hce hcv hcl T' e1 X'
    exact ⟨t2, st.trans a1, b1⟩
variable {y : MethodName} {bytes : ByteArray} {maxL nL n index : Nat} {ret : Option FieldType} {wy : List Cond} {rm : Room} {P : State → Prop} {Ts : List Cond} {own C host : String} {b : Addr} {As : List Value} {wc w1 ws' : va_W}
theorem c_txV (S : CallFix p m c cc nL s args Ts own) (hM : TX l y wy rm G P (.ref b :: As) wc w1 E) (cw : CallW R s args own C index y bytes maxL ret wy rm 1 6 n) (hbl : ∀ (U : State) (g : JFrame) (mk : MethodId) (a : Array Value), P U → P (U.calling g mk a)) (hrc : ∃ cellB : Cell, H[b]? = some cellB ∧ cellB.vm.isStatics = false ∧ s.vm.findClass C = some cellB.cls) (hat : ∀ U : State, U.heap = H → s.WarmedH U.vm → P U)
    (hP : va_P G vwCl ws H) (hD : va_D (wA w) ws) (hS : va_S (wA w) s.heap H locs) (is : List Nat) (hC : is.map (fun i => ws[i]?) = wc.map some) (hnd : va_nd is = true) (h1 : w1.map Prod.fst = wc.map Prod.fst) (hw : wsets ws is w1 = w')
    (hn : As.length = n) (hsize : ls.size = nL) (hstack : st0 = As.reverse ++ .ref b :: rest) (hW : (rest.map fun v => v.category).sum ≤ 8) (hf : cells + 1 ≤ R.cells ∧ slots + 6 ≤ R.slots) (hdg : decode cc pc = .ok (.invokevirtual index, 3))
    (htb : ∀ x ∈ c.exceptionTable.toList, False) (hlocks : meth.locks = false) (hz : cells = 0 ∧ slots = 0) : W p l e R s m args below meth c H locs cells slots (txZ below args s G w w' E) (F0 m pc ls st0) :=
  m_tx (vx_runV S hM cw ⟨fun a U g mk q => ⟨q.1, hbl U g mk a q.2.1, q.2.2⟩, hrc, fun U hU hW => ⟨rfl, hat U hU hW, m_Dpart hD is hnd hC⟩⟩ rfl hn hsize hstack (lv_room hW) hdg hf) hP hD hS is hC h1 hw (fun H1 locs1 q ce hP hD hS hq hv hcl => vx_out (fun x hx => (htb x hx).elim) hlocks hq hv hcl (fun t ht ha => ⟨rfl, by rw [ht]; exact hP, hS.F ht⟩) hS.2.2 (by rw [hz.1]; exact Nat.le_refl 1) (by rw [hz.2]; exact Nat.le_refl 6))
theorem c_tcV (S : CallFix p m c cc nL s args Ts own) (hM : TX l y wy rm G P (.ref b :: As) wc w1 E) (cw : CallW R s args own C index y bytes maxL ret wy rm 1 6 n) (hbl : ∀ (U : State) (g : JFrame) (mk : MethodId) (a : Array Value), P U → P (U.calling g mk a)) (hrc : ∃ cellB : Cell, H[b]? = some cellB ∧ cellB.vm.isStatics = false ∧ s.vm.findClass C = some cellB.cls) (hat : ∀ U : State, U.heap = H → s.WarmedH U.vm → P U)
    (hP : va_P G vwCl ws H) (hD : va_D A ws) (hS : va_S A H0 H locs) (is : List Nat) (hC : is.map (fun i => ws[i]?) = wc.map some) (hnd : va_nd is = true) (h1 : w1.map Prod.fst = wc.map Prod.fst) (hw : wsets ws is w1 = ws')
    (hn : As.length = n) (hsize : ls.size = nL) (hstack : st0 = As.reverse ++ .ref b :: rest) (hW : (rest.map fun v => v.category).sum ≤ 8) (hf : cells + 1 ≤ R.cells ∧ slots + 6 ≤ R.slots) (hdg : decode cc pc = .ok (.invokevirtual index, 3))
    (pre : List ExceptionTableEntry) (x : ExceptionTableEntry) (suf : List ExceptionTableEntry) (hsplit : c.exceptionTable.toList = pre ++ x :: suf) (hpass : ∀ z ∈ pre, covers z pc = false ∨ (z.catchType ≠ 0 ∧ ∃ nm : String, (Cond.classLink own z.catchType nm).before args s = true ∧ va_Nc E nm s)) (hx : covers x pc = true) (h0 : x.catchType ≠ 0) (hlink : (Cond.classLink own x.catchType E).before args s = true) (hcast : va_Nw (.castable E E) s)
    (kk : ∀ (H1 : Heap) (locs1 : List Loc) (q : Addr), va_P G vwCl ws' H1 → va_D A ws' → va_S A H0 H1 locs1 → W p l e R s m args below meth c H1 locs1 (cells + 1) (slots + 6) Q (F0 m x.handlerPc ls [.ref q])) : W p l e R s m args below meth c H locs cells slots Q (F0 m pc ls st0) :=
  m_tx (vx_runV S hM cw ⟨fun a U g mk q => ⟨q.1, hbl U g mk a q.2.1, q.2.2⟩, hrc, fun U hU hW => ⟨rfl, hat U hU hW, m_Dpart hD is hnd hC⟩⟩ rfl hn hsize hstack (lv_room hW) hdg hf) hP hD hS is hC h1 hw (fun H1 locs1 q ce hP hD hS hq hv hcl => vx_catch S.2.2.2.1 pre x suf hsplit hpass hx h0 hlink (va_Nw.use rfl hcast) hq hv hcl (kk H1 locs1 q hP hD hS))
theorem c_txS (S : CallFix p m c cc nL s args Ts own) (hM : TX l y wy rm G P (As) wc w1 E) (cw : CallB R s args own index y bytes maxL ret wy rm 1 6 n ∧ (Cond.static y).before args s = true) (hbl : ∀ (U : State) (g : JFrame) (mk : MethodId) (a : Array Value), P U → P (U.calling g mk a)) (hat : ∀ U : State, U.heap = H → s.WarmedH U.vm → P U)
    (hP : va_P G vwCl ws H) (hD : va_D (wA w) ws) (hS : va_S (wA w) s.heap H locs) (is : List Nat) (hC : is.map (fun i => ws[i]?) = wc.map some) (hnd : va_nd is = true) (h1 : w1.map Prod.fst = wc.map Prod.fst) (hw : wsets ws is w1 = w')
    (hn : As.length = n) (hsize : ls.size = nL) (hstack : st0 = As.reverse ++ rest) (hW : (rest.map fun v => v.category).sum ≤ 8) (hf : cells + 1 ≤ R.cells ∧ slots + 6 ≤ R.slots) (hdg : decode cc pc = .ok (.invokestatic index, 3))
    (htb : ∀ x ∈ c.exceptionTable.toList, False) (hlocks : meth.locks = false) (hz : cells = 0 ∧ slots = 0) : W p l e R s m args below meth c H locs cells slots (txZ below args s G w w' E) (F0 m pc ls st0) :=
  m_tx (vx_runS S hM cw ⟨fun a U g mk q => ⟨q.1, hbl U g mk a q.2.1, q.2.2⟩, fun U hU hW => ⟨rfl, hat U hU hW, m_Dpart hD is hnd hC⟩⟩ rfl hn hsize hstack (lv_room hW) hdg hf) hP hD hS is hC h1 hw (fun H1 locs1 q ce hP hD hS hq hv hcl => vx_out (fun x hx => (htb x hx).elim) hlocks hq hv hcl (fun t ht ha => ⟨rfl, by rw [ht]; exact hP, hS.F ht⟩) hS.2.2 (by rw [hz.1]; exact Nat.le_refl 1) (by rw [hz.2]; exact Nat.le_refl 6))
theorem c_tcS (S : CallFix p m c cc nL s args Ts own) (hM : TX l y wy rm G P (As) wc w1 E) (cw : CallB R s args own index y bytes maxL ret wy rm 1 6 n ∧ (Cond.static y).before args s = true) (hbl : ∀ (U : State) (g : JFrame) (mk : MethodId) (a : Array Value), P U → P (U.calling g mk a)) (hat : ∀ U : State, U.heap = H → s.WarmedH U.vm → P U)
    (hP : va_P G vwCl ws H) (hD : va_D A ws) (hS : va_S A H0 H locs) (is : List Nat) (hC : is.map (fun i => ws[i]?) = wc.map some) (hnd : va_nd is = true) (h1 : w1.map Prod.fst = wc.map Prod.fst) (hw : wsets ws is w1 = ws')
    (hn : As.length = n) (hsize : ls.size = nL) (hstack : st0 = As.reverse ++ rest) (hW : (rest.map fun v => v.category).sum ≤ 8) (hf : cells + 1 ≤ R.cells ∧ slots + 6 ≤ R.slots) (hdg : decode cc pc = .ok (.invokestatic index, 3))
    (pre : List ExceptionTableEntry) (x : ExceptionTableEntry) (suf : List ExceptionTableEntry) (hsplit : c.exceptionTable.toList = pre ++ x :: suf) (hpass : ∀ z ∈ pre, covers z pc = false ∨ (z.catchType ≠ 0 ∧ ∃ nm : String, (Cond.classLink own z.catchType nm).before args s = true ∧ va_Nc E nm s)) (hx : covers x pc = true) (h0 : x.catchType ≠ 0) (hlink : (Cond.classLink own x.catchType E).before args s = true) (hcast : va_Nw (.castable E E) s)
    (kk : ∀ (H1 : Heap) (locs1 : List Loc) (q : Addr), va_P G vwCl ws' H1 → va_D A ws' → va_S A H0 H1 locs1 → W p l e R s m args below meth c H1 locs1 (cells + 1) (slots + 6) Q (F0 m x.handlerPc ls [.ref q])) : W p l e R s m args below meth c H locs cells slots Q (F0 m pc ls st0) :=
  m_tx (vx_runS S hM cw ⟨fun a U g mk q => ⟨q.1, hbl U g mk a q.2.1, q.2.2⟩, fun U hU hW => ⟨rfl, hat U hU hW, m_Dpart hD is hnd hC⟩⟩ rfl hn hsize hstack (lv_room hW) hdg hf) hP hD hS is hC h1 hw (fun H1 locs1 q ce hP hD hS hq hv hcl => vx_catch S.2.2.2.1 pre x suf hsplit hpass hx h0 hlink (va_Nw.use rfl hcast) hq hv hcl (kk H1 locs1 q hP hD hS))
end TY
theorem wsets_id : ∀ {is : List Nat} {ws wc : va_W}, is.map (fun i => ws[i]?) = wc.map some → wsets ws is wc = ws
  | [], ws, [], _ => rfl
  | [], _, _ :: _, h => by simp at h
  | _ :: _, _, [], h => by simp at h
  | i :: is, ws, x :: wc, h => by
    simp only [List.map_cons, List.cons.injEq] at h
    show wsets (ws.set i x) is wc = ws
    have e : ws.set i x = ws := by
      apply List.ext_getElem?
      intro j
      by_cases hj : j = i
      · subst hj
        rw [List.getElem?_set_self (List.getElem?_eq_some_iff.mp h.1).1, h.1]
      · rw [List.getElem?_set_ne (Ne.symm hj)]
    rw [e]
    exact wsets_id h.2
