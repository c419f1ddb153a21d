/-! rows of four numbers: baths as the law holds them -/
def rowF (σ : St) (k : Nat) : Nat → Int32 := fun j => if j = 0 then vB σ k else if j = 1 then hB σ k else if j = 2 then pB σ k else if j = 3 then mB σ k else 0
def rowA (cy : Nat → ClassId) (ra : Nat → Nat) (σ : St) (n : Nat) : va_W := (List.range n).map fun k => (ra k, .inl (cy 2, 4, .inl (rowF σ k)))
/-- the outer array at ro, the rows at ra -/
def rowsW (cy : Nat → ClassId) (ro : Nat) (ra : Nat → Nat) (σ : St) : va_W := (ro, .inl (cy 6, nB σ, .inr (.inr (.inr (.inr (fun k => some (ra k))))))) :: rowA cy ra σ (nB σ)
theorem rowA_len {cy : Nat → ClassId} {ra : Nat → Nat} {σ : St} {n : Nat} : (rowA cy ra σ n).length = n := by
  unfold rowA
  rw [List.length_map, List.length_range]
theorem rowA_at {cy : Nat → ClassId} {ra : Nat → Nat} {σ : St} {n k : Nat} (hk : k < n) : (rowA cy ra σ n)[k]? = some (ra k, .inl (cy 2, 4, .inl (rowF σ k))) := by
  unfold rowA
  rw [List.getElem?_map, List.getElem?_range hk]
  rfl
theorem rows_len {cy : Nat → ClassId} {ro : Nat} {ra : Nat → Nat} {σ : St} : (rowsW cy ro ra σ).length = nB σ + 1 := by
  show (rowA cy ra σ (nB σ)).length + 1 = _
  rw [rowA_len]
theorem rows_at {cy : Nat → ClassId} {ro : Nat} {ra : Nat → Nat} {σ : St} {k : Nat} (hk : k < nB σ) : (rowsW cy ro ra σ)[k + 1]? = some (ra k, .inl (cy 2, 4, .inl (rowF σ k))) := by
  show (rowA cy ra σ (nB σ))[k]? = _
  exact rowA_at hk
/-- one row is written -/
theorem rows_set {cy : Nat → ClassId} {ro : Nat} {ra : Nat → Nat} {σ τ : St} {k : Nat} {f : Nat → Int32} (hn : nB τ = nB σ) (hk : k < nB σ) (h1 : rowF τ k = f) (h2 : ∀ i, ¬ i = k → rowF τ i = rowF σ i) : (rowsW cy ro ra σ).set (k + 1) (ra k, .inl (cy 2, 4, .inl f)) = rowsW cy ro ra τ := by
  show (ro, _) :: (rowA cy ra σ (nB σ)).set k _ = (ro, _) :: rowA cy ra τ (nB τ)
  rw [hn]
  congr 1
  apply List.ext_getElem?
  intro i
  by_cases hi : i < nB σ
  · by_cases e : i = k
    · subst e
      rw [List.getElem?_set_self (by rw [rowA_len]; exact hi), rowA_at hi, h1]
    · rw [List.getElem?_set_ne (Ne.symm e), rowA_at hi, rowA_at hi, h2 i e]
  · rw [List.getElem?_eq_none (by rw [List.length_set, rowA_len]; omega), List.getElem?_eq_none (by rw [rowA_len]; omega)]
theorem rows_fst {cy : Nat → ClassId} {ro : Nat} {ra : Nat → Nat} {σ τ : St} (hn : nB τ = nB σ) : (rowsW cy ro ra τ).map Prod.fst = (rowsW cy ro ra σ).map Prod.fst := by
  unfold rowsW rowA
  rw [hn]
  rw [List.map_cons, List.map_cons, List.map_map, List.map_map]
  rfl
theorem rows_sA {cy : Nat → ClassId} {ro : Nat} {ra : Nat → Nat} {σ τ : St} (hn : nB τ = nB σ) : SameA (rowsW cy ro ra τ) (rowsW cy ro ra σ) := rows_fst hn
theorem flat_set {Wc : List va_W} {j i : Nat} {c : va_W} {x : Nat × va_E} (h : Wc[j]? = some c) (hi : i < c.length) : Wc.flatten.set (offs Wc j + i) x = (Wc.set j (c.set i x)).flatten := by
  have hj := (List.getElem?_eq_some_iff.mp h).1
  have e : Wc.flatten = (Wc.take j).flatten ++ (c ++ (Wc.drop (j + 1)).flatten) := by
    have h2 : Wc = Wc.take j ++ c :: Wc.drop (j + 1) := by
      have h3 := (List.getElem?_eq_some_iff.mp h).2
      rw [← h3, List.getElem_cons_drop, List.take_append_drop]
    conv => lhs; rw [h2]
    rw [List.flatten_append, List.flatten_cons]
  have e2 : (Wc.set j (c.set i x)).flatten = (Wc.take j).flatten ++ (c.set i x ++ (Wc.drop (j + 1)).flatten) := by
    rw [List.set_eq_take_append_cons_drop, if_pos hj, List.flatten_append, List.flatten_cons]
  have e3 : offs Wc j = ((Wc.take j).flatten).length := by
    rw [List.length_flatten]; rfl
  rw [e, e2, e3, List.set_append_right _ _ (Nat.le_add_right _ _), Nat.add_sub_cancel_left, List.set_append_left _ _ hi]
section RWS
variable {p : Program} {l : Launch} {e : Env} {R : Room} {s : State} {m : MethodId} {args : Array Value} {below : List Frame} {meth : Method} {c : Code} {H H0 : Heap} {locs : List Loc} {cells slots : Nat} {Q : State → Prop}
variable {cc : ByteArray} {pc : Nat} {ls : Array Slot} {rest : List Value} {G : va_G} {cy : Nat → ClassId} {A : Nat → Prop} {Wc : List va_W} {ro : Nat} {ra : Nat → Nat} {σ : St}
theorem fl_rows {j k : Nat} (hj : Wc[j]? = some (rowsW cy ro ra σ)) (hk : k < nB σ) : (fl Wc)[offs Wc j + (k + 1)]? = some (ra k, .inl (cy 2, 4, .inl (rowF σ k))) := (fl_at hj (by rw [rows_len]; omega)).trans (rows_at hk)
theorem fl_outer {j : Nat} (hj : Wc[j]? = some (rowsW cy ro ra σ)) : (fl Wc)[offs Wc j + 0]? = some (ro, .inl (cy 6, nB σ, .inr (.inr (.inr (.inr (fun k => some (ra k))))))) := (fl_at hj (by rw [rows_len]; omega)).trans rfl
/-- the number of rows -/
theorem r_len (hx : p.tables.exec = Jvm.exec) (hb : c.code = cc) (hK : KK G cy s) (hP : va_P G vwCl (fl Wc) H) (j : Nat) (hj : Wc[j]? = some (rowsW cy ro ra σ)) (hdg : decode cc pc = .ok (.arraylength, 1))
    (kk : W p l e R s m args below meth c H locs cells slots Q (F0 m (pc + 1) ls (.int (nI (nB σ)) :: rest))) : W p l e R s m args below meth c H locs cells slots Q (F0 m pc ls (.ref ro :: rest)) := va_alen hx hb hK.1 hP _ 6 (fl_outer hj) rfl rfl hdg kk
/-- a row -/
theorem r_row (hx : p.tables.exec = Jvm.exec) (hb : c.code = cc) (hK : KK G cy s) (hP : va_P G vwCl (fl Wc) H) (j : Nat) (hj : Wc[j]? = some (rowsW cy ro ra σ)) {i : Int32} (k : Nat) (hi : i = nI k) (hk : k < nB σ) (hn : nB σ ≤ 5) (hdg : decode cc pc = .ok (.aaload, 1))
    (kk : W p l e R s m args below meth c H locs cells slots Q (F0 m (pc + 1) ls (.ref (ra k) :: rest))) : W p l e R s m args below meth c H locs cells slots Q (F0 m pc ls (.int i :: .ref ro :: rest)) := by
  subst hi
  have hc : (nI k).toNatClampNeg = k := nI_clamp (by omega)
  have hin : vp_in (nI k) (nB σ) := vp_in_nI hk (by omega)
  refine W.aald (v := .ref (ra k)) (ty := .array .int) hx hb (hP _ _ (fl_outer hj)) ((hK.1.2 6 _ rfl).1 (nB σ) (fun j => va_rf (some (ra j)))) rfl (fun q => by cases q) (by show ¬ (_ < 0 ∨ (arrV _ _ _).slots.size ≤ _); rw [arrV_size]; exact hin) (by show (arrV _ _ _).slots[_]? = _; rw [hc, arrV_read _ _ hk]; rfl) rfl rfl hdg kk
/-- a number of a row -/
theorem r_get (hx : p.tables.exec = Jvm.exec) (hb : c.code = cc) (hK : KK G cy s) (hP : va_P G vwCl (fl Wc) H) (j : Nat) (hj : Wc[j]? = some (rowsW cy ro ra σ)) {i v : Int32} (k x : Nat) (hi : i = nI x) (hx4 : x < 4) (hk : k < nB σ) (hv : rowF σ k x = v) (hdg : decode cc pc = .ok (.iaload, 1))
    (kk : W p l e R s m args below meth c H locs cells slots Q (F0 m (pc + 1) ls (.int v :: rest))) : W p l e R s m args below meth c H locs cells slots Q (F0 m pc ls (.int i :: .ref (ra k) :: rest)) := by
  subst hv
  exact m_iald hx hb hK hP _ (fl_rows hj hk) hi hx4 (Nat.le_of_ble_eq_true rfl) hdg kk
/-- a number of a row is written -/
theorem r_put {τ : St} {Wn : List va_W} (hx : p.tables.exec = Jvm.exec) (hb : c.code = cc) (hK : KK G cy s) (hP : va_P G vwCl (fl Wc) H) (hD : va_D A (fl Wc)) (hS : va_S A H0 H locs) (j : Nat) (hj : Wc[j]? = some (rowsW cy ro ra σ)) {i v : Int32} (k x : Nat) (hi : i = nI x) (hx4 : x < 4) (hk : k < nB σ) (hn : nB τ = nB σ) (h1 : rowF τ k = upd (rowF σ k) x v) (h2 : ∀ i, ¬ i = k → rowF τ i = rowF σ i) (hw : Wc.set j (rowsW cy ro ra τ) = Wn) (hdg : decode cc pc = .ok (.iastore, 1))
    (kk : ∀ (H1 : Heap) (locs1 : List Loc), va_P G vwCl (fl Wn) H1 → va_D A (fl Wn) → va_S A H0 H1 locs1 → W p l e R s m args below meth c H1 locs1 cells slots Q (F0 m (pc + 1) ls rest)) : W p l e R s m args below meth c H locs cells slots Q (F0 m pc ls (.int v :: .int i :: .ref (ra k) :: rest)) := by
  refine m_iast hx hb hK hP hD hS _ (fl_rows hj hk) hi hx4 (Nat.le_of_ble_eq_true rfl) hdg (fun H1 locs1 hP hD hS => ?_)
  have e : (fl Wc).set (offs Wc j + (k + 1)) (ra k, .inl (cy 2, 4, .inl (upd (rowF σ k) x v))) = fl Wn := by
    rw [fl_eq, fl_eq, ← hw]
    rw [flat_set hj (by rw [rows_len]; omega), rows_set hn hk h1 h2]
  rw [e] at hP hD
  exact kk H1 locs1 hP hD hS
/-- an array of ints that is a chunk of its own -/
theorem c_iald (hx : p.tables.exec = Jvm.exec) (hb : c.code = cc) (hK : KK G cy s) (hP : va_P G vwCl (fl Wc) H) (j : Nat) {x n : Nat} {f : Nat → Int32} (hj : Wc[j]? = some [(x, .inl (cy 2, n, .inl f))]) {i v : Int32} (k : Nat) (hi : i = nI k) (hk : k < n) (hn : n < 2147483648) (hv : f k = v) (hdg : decode cc pc = .ok (.iaload, 1))
    (kk : W p l e R s m args below meth c H locs cells slots Q (F0 m (pc + 1) ls (.int v :: rest))) : W p l e R s m args below meth c H locs cells slots Q (F0 m pc ls (.int i :: .ref x :: rest)) := by
  subst hv
  exact m_iald hx hb hK hP _ ((fl_at hj (show 0 < 1 from Nat.one_pos)).trans rfl) hi hk hn hdg kk
theorem c_iast {Wn : List va_W} (hx : p.tables.exec = Jvm.exec) (hb : c.code = cc) (hK : KK G cy s) (hP : va_P G vwCl (fl Wc) H) (hD : va_D A (fl Wc)) (hS : va_S A H0 H locs) (j : Nat) {x n : Nat} {f : Nat → Int32} (hj : Wc[j]? = some [(x, .inl (cy 2, n, .inl f))]) {i v : Int32} (k : Nat) (hi : i = nI k) (hk : k < n) (hn : n < 2147483648) (hw : Wc.set j [(x, .inl (cy 2, n, .inl (upd f k v)))] = Wn) (hdg : decode cc pc = .ok (.iastore, 1))
    (kk : ∀ (H1 : Heap) (locs1 : List Loc), va_P G vwCl (fl Wn) H1 → va_D A (fl Wn) → va_S A H0 H1 locs1 → W p l e R s m args below meth c H1 locs1 cells slots Q (F0 m (pc + 1) ls rest)) : W p l e R s m args below meth c H locs cells slots Q (F0 m pc ls (.int v :: .int i :: .ref x :: rest)) := by
  refine m_iast hx hb hK hP hD hS _ ((fl_at hj (show 0 < 1 from Nat.one_pos)).trans rfl) hi hk hn hdg (fun H1 locs1 hP hD hS => ?_)
  have e : (fl Wc).set (offs Wc j + 0) (x, .inl (cy 2, n, .inl (upd f k v))) = fl Wn := by
    rw [fl_eq, fl_eq, ← hw, flat_set hj (show 0 < 1 from Nat.one_pos)]
    rfl
  rw [e] at hP hD
  exact kk H1 locs1 hP hD hS
theorem c_alen (hx : p.tables.exec = Jvm.exec) (hb : c.code = cc) (hK : KK G cy s) (hP : va_P G vwCl (fl Wc) H) (j : Nat) {x n : Nat} {f : Nat → Int32} (hj : Wc[j]? = some [(x, .inl (cy 2, n, .inl f))]) (hdg : decode cc pc = .ok (.arraylength, 1))
    (kk : W p l e R s m args below meth c H locs cells slots Q (F0 m (pc + 1) ls (.int (nI n) :: rest))) : W p l e R s m args below meth c H locs cells slots Q (F0 m pc ls (.ref x :: rest)) := va_alen hx hb hK.1 hP _ 2 ((fl_at hj (show 0 < 1 from Nat.one_pos)).trans rfl) rfl rfl hdg kk
end RWS
