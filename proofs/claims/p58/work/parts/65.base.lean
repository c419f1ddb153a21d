/-! the script, new rows, and what the law's larger methods stand on -/
def XQ (b L : Nat) (xs : Nat → Int32) (w : va_W) : State → Prop := fun U => va_X b L xs U U.heap ∧ b < U.heap.size ∧ ¬ wA w b ∧ L ≤ 260
theorem XQ.blind {b L : Nat} {xs : Nat → Int32} {w : va_W} : ∀ (U : State) (g : JFrame) (mk : MethodId) (a : Array Value), XQ b L xs w U → XQ b L xs w (U.calling g mk a) := fun U g mk a h => ⟨va_X.moved (u := U) (U := U.calling g mk a) (Vm.Alike.refl U.vm) h.1, h.2⟩
theorem XQ.at {b L : Nat} {xs : Nat → Int32} {A : Nat → Prop} {w : va_W} {s : State} {H : Heap} {locs : List Loc} (hX : va_X b L xs s s.heap) (hbl : b < s.heap.size) (hbA : ¬ A b) (hL : L ≤ 260) (hS : va_S A s.heap H locs) (hB : ∀ q, wA w q → A q) : ∀ U : State, U.heap = H → s.WarmedH U.vm → XQ b L xs w U := by
  intro U hU hW
  unfold XQ
  rw [hU]
  exact ⟨(hX.kept (hS.2.1 b hbl hbA)).moved hW.alike, Nat.lt_of_lt_of_le hbl hS.1, fun z => hbA (hB _ z), hL⟩
def cellF (L : Nat) (xs : Nat → Int32) (k : Nat) : Int32 := if k < L then xs k else 40503 * nI k
/-- with the script at hand -/
def LZ (l : Launch) (y : MethodName) (F Lc k : Nat) (G : va_G) (cy : Nat → ClassId) (kS vS : Nat → Nat) (a : OA) (V : OV) (b L : Nat) (xs : Nat → Int32) (av : List Value) (R : OV → Value → Prop) : Prop := ∀ (u : OU) (sz : Nat), Met l y wsL_law { frames := F, cells := k, slots := 64 * k, locals := Lc } (va_Pc av (fun U => (U.heap.size = sz ∧ PQ G cy kS vS (OW cy a V u) U ∧ va_D (fun _ => True) (OW cy a V u)) ∧ XQ b L xs (OW cy a V u) U))
  (fun _ st o t => ∃ (V' : OV) (r : Value) (u' : OU), R V' r ∧ o = .returned (some r) ∧ va_P G vwCl (OW cy a V' u') t.heap ∧ va_F (va_A (OW cy a V u) sz) st t) k (64 * k) (va_A (OW cy a V u) sz)
theorem LZ.ofW {l : Launch} {y : MethodName} {F Lc k : Nat} {G : va_G} {cy : Nat → ClassId} {kS vS : Nat → Nat} {a : OA} {V : OV} {b L : Nat} {xs : Nat → Int32} {av : List Value} {R : OV → Value → Prop} {cc : ByteArray} {maxL : Nat} {ret : Option FieldType} (hy : plainName y.cls = true) (hc : Cond.code y cc maxL ret ∈ wsL_law) (hn : (lg_sl av).length ≤ maxL)
    (body : ∀ (p : Program) (e : Env) (s : State) (m : MethodId) (below : List Frame) (meth : Method) (c : Code) (u : OU), CallFix p m c cc maxL s av.toArray wsL_law y.cls → meth.sig.returnType = ret → meth.locks = false → PQ G cy kS vS (OW cy a V u) s → XQ b L xs (OW cy a V u) s → va_D (va_A (OW cy a V u) s.heap.size) (OW cy a V u) → va_S (va_A (OW cy a V u) s.heap.size) s.heap s.heap [] → (∀ q, s.heap.size ≤ q → va_A (OW cy a V u) s.heap.size q) → ∀ ls : Array Slot, lv_has ls maxL (lv_args 0 av) →
      W p l e { frames := F, cells := k, slots := 64 * k, locals := Lc } s m av.toArray below meth c s.heap [] 0 0 (lxZ below av.toArray s G cy a V u R k) (F0 m 0 ls [])) : LZ l y F Lc k G cy kS vS a V b L xs av R := by
  intro u sz
  refine Met.conv (ws := Cond.code y cc maxL ret :: wsL_law) (Met.ofW hy rfl ?_) (fun w hw => by rcases List.mem_cons.mp hw with e | e; exact e ▸ hc; exact e) ⟨Nat.le_refl _, Nat.le_refl _, Nat.le_refl _, Nat.le_refl _⟩ (fun _ _ hp => hp) (fun _ _ _ _ _ q => q) (Nat.le_refl _) (Nat.le_refl _) (fun _ hq => hq)
  intro p e s m args below meth c s₁ B hml hv
  obtain ⟨rfl, ⟨rfl, hP, hD⟩, hX⟩ := hv
  rw [lg_entry_eq]
  exact body p e s m below meth c u ⟨B.exec, B.bytes, hml, findClass_of_methodNamed B.named, fun w hw => atoms_spec B.pre w (List.mem_cons_of_mem _ hw)⟩ B.returns B.notSynchronized hP hX hD.self58 va_S.rf (fun q h => Or.inr h) _ (lv_entry av hn)
/-- rows that are made out of the baths -/
def LB (l : Launch) (F Lc : Nat) (G : va_G) (cy : Nat → ClassId) (kS vS : Nat → Nat) (a : OA) (V : OV) : Prop := ∀ (u : OU) (sz : Nat), Met l yL_baths wsL_law { frames := F, cells := 11, slots := 704, locals := Lc } (va_Pc [.ref a.aX] (fun U => U.heap.size = sz ∧ PQ G cy kS vS (OW cy a V u) U ∧ va_D (fun _ => True) (OW cy a V u)))
  (fun _ st o t => ∃ (u' : OU) (ro : Nat) (ra : Nat → Nat), o = .returned (some (.ref ro)) ∧ va_P G vwCl (fl [OW cy a V u', rowsW cy ro ra V.σ]) t.heap ∧ va_D (va_A (OW cy a V u) sz) (fl [OW cy a V u', rowsW cy ro ra V.σ]) ∧ va_F (va_A (OW cy a V u) sz) st t) 11 704 (va_A (OW cy a V u) sz)
abbrev lbZ (below : List Frame) (args : Array Value) (s : State) (G : va_G) (cy : Nat → ClassId) (a : OA) (V : OV) (u : OU) : State → Prop := MQ below (fun _ st o t => ∃ (u' : OU) (ro : Nat) (ra : Nat → Nat), o = .returned (some (.ref ro)) ∧ va_P G vwCl (fl [OW cy a V u', rowsW cy ro ra V.σ]) t.heap ∧ va_D (va_A (OW cy a V u) s.heap.size) (fl [OW cy a V u', rowsW cy ro ra V.σ]) ∧ va_F (va_A (OW cy a V u) s.heap.size) st t) args s 11 704 (va_A (OW cy a V u) s.heap.size)
theorem LB.ofW {l : Launch} {F Lc : Nat} {G : va_G} {cy : Nat → ClassId} {kS vS : Nat → Nat} {a : OA} {V : OV} {cc : ByteArray} {maxL : Nat} {ret : Option FieldType} (hc : Cond.code yL_baths cc maxL ret ∈ wsL_law) (hn : (lg_sl [Value.ref a.aX]).length ≤ maxL)
    (body : ∀ (p : Program) (e : Env) (s : State) (m : MethodId) (below : List Frame) (meth : Method) (c : Code) (u : OU), CallFix p m c cc maxL s #[Value.ref a.aX] wsL_law RL → meth.sig.returnType = ret → meth.locks = false → PQ G cy kS vS (OW cy a V u) s → va_D (va_A (OW cy a V u) s.heap.size) (OW cy a V u) → va_S (va_A (OW cy a V u) s.heap.size) s.heap s.heap [] → (∀ q, s.heap.size ≤ q → va_A (OW cy a V u) s.heap.size q) → ∀ ls : Array Slot, lv_has ls maxL [(0, .ref a.aX)] →
      W p l e { frames := F, cells := 11, slots := 704, locals := Lc } s m #[Value.ref a.aX] below meth c s.heap [] 0 0 (lbZ below #[Value.ref a.aX] s G cy a V u) (F0 m 0 ls [])) : LB l F Lc G cy kS vS a V := by
  intro u sz
  refine Met.conv (ws := Cond.code yL_baths cc maxL ret :: wsL_law) (Met.ofW (by decide) rfl ?_) (fun w hw => by rcases List.mem_cons.mp hw with e | e; exact e ▸ hc; exact e) ⟨Nat.le_refl _, Nat.le_refl _, Nat.le_refl _, Nat.le_refl _⟩ (fun _ _ hp => hp) (fun _ _ _ _ _ q => q) (Nat.le_refl _) (Nat.le_refl _) (fun _ hq => hq)
  intro p e s m args below meth c s₁ B hml hv
  obtain ⟨rfl, rfl, hP, hD⟩ := hv
  rw [lg_entry_eq]
  exact body p e s m below meth c u ⟨B.exec, B.bytes, hml, findClass_of_methodNamed B.named, fun w hw => atoms_spec B.pre w (List.mem_cons_of_mem _ hw)⟩ B.returns B.notSynchronized hP hD.self58 va_S.rf (fun q h => Or.inr h) _ (lv_entry [.ref a.aX] hn)
theorem fl_snoc (Wc : List va_W) (c : va_W) : fl Wc ++ c = fl (Wc ++ [c]) := by
  rw [fl_eq, fl_eq, List.flatten_append, List.flatten_cons, List.flatten_nil, List.append_nil]
theorem left_P {D : va_G} {cl : List vw_C} {w r : va_W} {H : Heap} (h : va_P D cl (w ++ r) H) : va_P D cl w H := fun k q hk => h k q (by rw [List.getElem?_append_left (List.getElem?_eq_some_iff.mp hk).1]; exact hk)
theorem left_D {A : Nat → Prop} {w r : va_W} (h : va_D A (w ++ r)) : va_D A w := by
  have e : ∀ (k : Nat) (q : Nat × va_E), w[k]? = some q → (w ++ r)[k]? = some q := fun k q hk => by
    rw [List.getElem?_append_left (List.getElem?_eq_some_iff.mp hk).1]; exact hk
  exact ⟨fun i j p q hp hq hpq => h.1 _ _ _ _ (e i p hp) (e j q hq) hpq, fun k q hk => h.2 _ q (e k q hk)⟩
theorem P_cell {G : va_G} {cl : List vw_C} {A R : va_W} {ro : Nat} {cA : ClassId} {x y : vp_A} {H : Heap} (e : vp_cell cA x = vp_cell cA y) (hP : va_P G cl (A ++ ((ro, .inl (cA, x)) :: R)) H) : va_P G cl (A ++ ((ro, .inl (cA, y)) :: R)) H := by
  intro k q hk
  rcases Nat.lt_trichotomy k A.length with h | h | h
  · refine hP k q ?_
    rw [List.getElem?_append_left h] at hk ⊢
    exact hk
  · subst h
    have h1 := hP A.length (ro, .inl (cA, x)) (by simp)
    have h2 : q = (ro, .inl (cA, y)) := by simpa using hk.symm
    subst h2
    exact h1.trans (congrArg some e)
  · refine hP k q ?_
    obtain ⟨j, rfl⟩ : ∃ j, k = A.length + (j + 1) := ⟨k - A.length - 1, by omega⟩
    rw [List.getElem?_append_right (by omega), Nat.add_sub_cancel_left] at hk ⊢
    exact hk
theorem rowA_snoc {cy : Nat → ClassId} {ra : Nat → Nat} {σ : St} {k q : Nat} : rowA cy ra σ k ++ [(q, .inl (cy 2, 4, .inl (rowF σ k)))] = rowA cy (fun i => if i = k then q else ra i) σ (k + 1) := by
  unfold rowA
  rw [List.range_succ, List.map_append]
  congr 1
  · apply List.map_congr_left
    intro i hi
    have h1 := List.mem_range.mp hi
    have e1 : (if i = k then q else ra i) = ra i := if_neg (by omega)
    show (ra i, _) = ((if i = k then q else ra i), _)
    rw [e1]
  · simp
theorem row_mk {σ : St} {k : Nat} {x y : Int32} (hp : pB σ k = x) (hm : mB σ k = y) : upd (upd (upd (upd (fun _ => 0) 0 (vB σ k)) 1 (hB σ k)) 2 x) 3 y = rowF σ k := by
  subst hp
  subst hm
  funext j
  match j with
  | 0 => rfl
  | 1 => rfl
  | 2 => rfl
  | 3 => rfl
  | j + 4 => simp [rowF, upd]
theorem assign_self (vm : Vm) (c : ClassId) : vm.assignable c c = true := by
  show Vm.assignableAux vm (255 + 1) c c = true
  unfold Vm.assignableAux
  rw [beq_self_eq_true, Bool.true_or]
section BQ
variable {p : Program} {l : Launch} {e : Env} {R0 : Room} {s : State} {m : MethodId} {args : Array Value} {below : List Frame} {meth : Method} {c : Code} {H H0 : Heap} {locs : List Loc} {cells slots : Nat} {Q : State → Prop}
variable {cc : ByteArray} {pc : Nat} {ls : Array Slot} {rest st0 : List Value} {G : va_G} {cy : Nat → ClassId} {kS vS : Nat → Nat} {A : Nat → Prop} {a : OA} {V : OV} {u : OU} {R : OV → Value → Prop} {ex : List va_W} {Wc : List va_W}
/-- a new array of ints or longs, a chunk of its own at the end -/
theorem c_newa (hx : p.tables.exec = Jvm.exec) (hb : c.code = cc) {atype : ArrayType} (harr : (Cond.arrayClass (newarray.typeOf atype)).before args s = true) {ty : FieldType} (hty : newarray.typeOf atype = ty) (hK : KK G cy s) (k : Nat) (hk : (tyl cy)[k]? = some (cy k, ty)) (hP : va_P G vwCl (fl Wc) H) (hD : va_D A (fl Wc)) (hS : va_S A H0 H locs) (hA : ∀ q, H0.size ≤ q → A q)
    {n : Int32} (N' : Nat) {a0 : vp_A} (ha : ∀ cA : ClassId, vp_cell cA a0 = arrV cA N' (fun _ => defaultValue ty)) (hn : n = nI N') (hN : N' ≤ 64) (hbytes : N' * componentBytes ty ≤ 536870912) {MC : Nat} (hR : MC = R0.cells ∧ 64 * MC = R0.slots) (b : Nat) (hc : cells + (b + 1) ≤ MC) (hs : slots + 64 * (b + 1) ≤ 64 * MC) (hdg : decode cc pc = .ok (.newarray atype, 2))
    (kk : ∀ (q : Nat) (H1 : Heap) (cells1 slots1 : Nat), cells1 + b ≤ MC → slots1 + 64 * b ≤ 64 * MC → va_P G vwCl (fl (Wc ++ [[(q, .inl (cy k, a0))]])) H1 → va_D A (fl (Wc ++ [[(q, .inl (cy k, a0))]])) → va_S A H0 H1 locs →
      W p l e R0 s m args below meth c H1 locs cells1 slots1 Q (F0 m (pc + 2) ls (.ref q :: rest))) : W p l e R0 s m args below meth c H locs cells slots Q (F0 m pc ls (.int n :: rest)) := by
  subst hn
  refine m_newa hx hb harr hty hK k hk hP hD hS hA ha (fun z => by rw [Int32.lt_iff_toInt_lt, nI_toInt (by omega), Int32.toInt_zero] at z; omega) (nI_clamp (by omega)) hbytes (by rw [← hR.1]; omega) (by rw [← hR.2]; omega) hdg (fun q H1 hP hD hS => ?_)
  rw [fl_snoc] at hP hD
  exact kk q H1 _ _ (by omega) (by omega) hP hD hS
/-- a reference into an outer array: which row -/
theorem c_aast (hx : p.tables.exec = Jvm.exec) (hb : c.code = cc) (hK : KK G cy s) (hAA : va_AOA .int s) (hP : va_P G vwCl (fl Wc) H) (hD : va_D A (fl Wc)) (hS : va_S A H0 H locs) (j j2 : Nat) {x v n n2 : Nat} {g : Nat → Option Nat} {f : Nat → Int32} (hj : Wc[j]? = some [(x, .inl (cy 6, n, .inr (.inr (.inr (.inr g)))))]) (hj2 : Wc[j2]? = some [(v, .inl (cy 2, n2, .inl f))]) {i : Int32} (k : Nat) (hi : i = nI k) (hk : k < n) (hn : n < 2147483648) {Wn : List va_W} (hw : Wc.set j [(x, .inl (cy 6, n, .inr (.inr (.inr (.inr (va_up g k (some v)))))))] = Wn) (hdg : decode cc pc = .ok (.aastore, 1))
    (kk : ∀ (H1 : Heap) (locs1 : List Loc), va_P G vwCl (fl Wn) H1 → va_D A (fl Wn) → va_S A H0 H1 locs1 → W p l e R0 s m args below meth c H1 locs1 cells slots Q (F0 m (pc + 1) ls rest)) : W p l e R0 s m args below meth c H locs cells slots Q (F0 m pc ls (.ref v :: .int i :: .ref x :: rest)) := by
  subst hi
  have hc : (nI k).toNatClampNeg = k := nI_clamp (by omega)
  have ha : (fl Wc)[offs Wc j + 0]? = some (x, .inl (cy 6, n, .inr (.inr (.inr (.inr g))))) := (fl_at hj (show 0 < 1 from Nat.one_pos)).trans rfl
  have hv0 : (fl Wc)[offs Wc j2 + 0]? = some (v, .inl (cy 2, n2, .inl f)) := (fl_at hj2 (show 0 < 1 from Nat.one_pos)).trans rfl
  have hv := hP _ _ hv0
  obtain ⟨comp, c6, k6, q1, q2, q3, q4⟩ := Cond.arrayOver_specA (va_AOA.use (A := #[]) hAA)
  have e6 : c6 = cy 6 := by
    have h6 := (hK.1.2 6 (cy 6, .array .int) rfl).2
    have h7 : s.vm.findClass ("[" ++ (FieldType.array FieldType.int).toString) = some (cy 6) := h6
    exact Option.some.inj (q4.symm.trans h7)
  have e2 : comp = cy 2 := by
    have h6 := (hK.1.2 2 (cy 2, .int) rfl).2
    have h7 : s.vm.findClass ("[" ++ FieldType.int.toString) = some (cy 2) := h6
    exact Option.some.inj (q1.symm.trans h7)
  subst e6
  subst e2
  obtain ⟨hno, k2, hk2, comp2, hkind2⟩ := (hK.1.2 2 (cy 2, .int) rfl).1 n2 (fun j => .int (f j))
  have h0 : ¬ nI k < 0 := fun z => by rw [Int32.lt_iff_toInt_lt, nI_toInt (by omega), Int32.toInt_zero] at z; omega
  refine W.aast hx hb (hP _ _ ha) (fun q h => by cases h) (fun h => by cases h) q2 q3 rfl hk2 ⟨h0, by show _ < (arrV _ _ _).slots.size; rw [arrV_size, hc]; exact hk⟩ hv (fun q h => by cases h) hk2 (assign_self _ _) rfl rfl hdg fun H1 e z oq => ?_
  have e3 : (fl Wc).set (offs Wc j + 0) (x, .inl (cy 6, n, .inr (.inr (.inr (.inr (va_up g k (some v))))))) = fl Wn := by
    rw [fl_eq, fl_eq, ← hw, flat_set hj (show 0 < 1 from Nat.one_pos)]
    rfl
  rw [← e3] at kk
  refine kk H1 _ (hP.set hD ha ?_ oq) (hD.set ha) (hS.put z oq (hD.2 _ _ ha))
  show H1[x]? = some (vp_cell _ _)
  rw [e]
  rw [vp_cell_q, vp_cell_q, arrV_store, hc]
  congr 2
  funext q
  by_cases hq : q = k
  · subst hq
    simp [updV, va_up, va_rf]
  · simp [updV, va_up, hq]
variable {y : MethodName} {bytes : ByteArray} {maxL nL n index F Lc k : Nat} {ret : Option FieldType} {Ts : List Cond} {own : String} {As : List Value}
set_option maxRecDepth 100000 in
theorem lb_S (S : CallFix p m c cc nL s args Ts own) (hF : LF G cy kS vS A s) (hM : LB l F Lc G cy kS vS a V) (cw : CallB R0 s args own index yL_baths bytes maxL ret wsL_law { frames := F, cells := 11, slots := 704, locals := Lc } 11 704 1 ∧ (Cond.static yL_baths).before args s = true)
    (hP : va_P G vwCl (fl (OW cy a V u :: ex)) H) (hD : va_D A (fl (OW cy a V u :: ex))) (hS : va_S A s.heap H locs) (hA : ∀ q, s.heap.size ≤ q → A q) (hsize : ls.size = nL) (hW : (rest.map fun v => v.category).sum ≤ 8) {MC : Nat} (hR : MC = R0.cells ∧ 64 * MC = R0.slots) (b : Nat) (hc : cells + (b + 11) ≤ MC) (hs : slots + 64 * (b + 11) ≤ 64 * MC) (hdg : decode cc pc = .ok (.invokestatic index, 3))
    (kk : ∀ (u' : OU) (ro : Nat) (ra : Nat → Nat) (H1 : Heap) (locs1 : List Loc) (cells1 slots1 : Nat), cells1 + b ≤ MC → slots1 + 64 * b ≤ 64 * MC → va_P G vwCl (fl (OW cy a V u' :: rowsW cy ro ra V.σ :: ex)) H1 → va_D A (fl (OW cy a V u' :: rowsW cy ro ra V.σ :: ex)) → va_S A s.heap H1 locs1 → W p l e R0 s m args below meth c H1 locs1 cells1 slots1 Q (F0 m (pc + 3) ls (.ref ro :: rest))) : W p l e R0 s m args below meth c H locs cells slots Q (F0 m pc ls (.ref a.aX :: rest)) := by
  have hC := OW_poss (cy := cy) (a := a) (V := V) (u := u) ex
  have hsub0 := wA_sub hD _ hC
  have hPo := m_Ppart hP _ hC
  have hsub : ∀ q, va_A (OW cy a V u) H.size q → A q := by
    rintro q (h | h)
    · exact hsub0 q h
    · exact hA q (Nat.le_trans hS.1 h)
  have hr := va_runS (As := [.ref a.aX]) S (hM u H.size) cw ⟨fun b2 U g mk q => ⟨q.1, q.2.1, PQ.blind U g mk b2 q.2.2.1, q.2.2.2⟩, fun U hU hW => ⟨rfl, by rw [hU], hF.pq hS hA hsub0 hPo U hU hW, m_Dpart hD _ (poss_nd (by decide)) hC⟩⟩ (g := F0 m pc ls (.ref a.aX :: rest)) (locs := locs) (cells := cells) (slots := slots) (e := e) (below := below) (meth := meth) rfl rfl hsize rfl (lv_room hW) hdg ⟨by rw [← hR.1]; omega, by rw [← hR.2]; omega⟩
  intro T hT X
  obtain ⟨v, st₀, t, T', L, h0, X', hL, e1, e2, ⟨u', ro, ra, hv, hp, hd, hz, hk⟩, st⟩ := hr T hT X
  cases hv
  rw [h0] at hz hk
  have hP2 : va_P G vwCl (([] ++ ex.flatten) ++ OW cy a V u) H := va_P.swap (a := []) (by rw [fl_eq, List.flatten_cons] at hP; exact hP)
  have hD2 : va_D A (([] ++ ex.flatten) ++ OW cy a V u) := va_D.swap (a := []) (by rw [fl_eq, List.flatten_cons] at hD; exact hD)
  obtain ⟨hP3, hD3⟩ := va_joinA hP2 hD2 hk hsub hp hd
  have e9 : ([] ++ fl [OW cy a V u', rowsW cy ro ra V.σ]) ++ ex.flatten = fl (OW cy a V u' :: rowsW cy ro ra V.σ :: ex) := by
    rw [fl_eq, fl_eq, List.flatten_cons, List.flatten_cons, List.flatten_nil, List.append_nil, List.flatten_cons, List.flatten_cons, List.nil_append, List.append_assoc]
  have hP4 := va_P.swap (a := []) hP3
  have hD4 := va_D.swap (a := []) hD3
  rw [e9] at hP4 hD4
  obtain ⟨t2, a1, b1⟩ := kk u' ro ra t.heap (locs ++ L) _ _ (show cells + 11 + b ≤ MC by omega) (show slots + 704 + 64 * b ≤ 64 * MC by omega) hP4 hD4
    ⟨Nat.le_trans hS.1 hz, fun q q1 q2 => (hk q (Nat.lt_of_lt_of_le q1 hS.1) (fun z => q2 (hsub q z))).trans (hS.2.1 q q1 q2), fun q hq => by
      rcases List.mem_append.mp hq with h | h
      · exact hS.2.2 q h
      · exact hsub _ (hL q h)⟩ T' e1 X'
  exact ⟨t2, st t2 a1, b1⟩
end BQ
