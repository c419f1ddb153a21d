/-! undoing: rows of longs, texts of a script -/
theorem lg_self (x : Int64) : lg_cmp x x = 0 := by
  have h1 := (lg_cmp_le x x).mpr (Int64.le_iff_toInt_le.mpr (Int.le_refl _))
  have h2 := (lg_cmp_ge x x).mpr (Int64.le_iff_toInt_le.mpr (Int.le_refl _))
  rw [Int32.le_iff_toInt_le, Int32.toInt_zero] at h1 h2
  apply Int32.toInt_inj.mp
  rw [Int32.toInt_zero]
  omega
theorem SR.int {n : Nat} {V V2 : OV} {r2 : Value} {P : Prop} {Q : St → Prop} (h : SR n V P Q V2 r2) : ∃ r : Int32, r2 = .int r ∧ SR n V False (fun _ => True) V2 (.int r) := by
  obtain ⟨r, e, hG, hb, h⟩ := h
  exact ⟨r, e, r, rfl, hG, hb, h.imp (fun z => ⟨z.1, z.2.1, z.2.2.1, z.2.2.2.1, trivial⟩) (fun z => ⟨z.1, z.2.1, z.2.2.1, z.2.2.2.1, z.2.2.2.2.1, fun q => q.elim⟩)⟩
theorem le_dn {c d m n M : Nat} (h : c + (d + m) ≤ M) (hn : n ≤ m) : c + (d + n) ≤ M := by omega
theorem le_dn2 {c d m n M : Nat} (h : c + 64 * (d + m) ≤ M) (hn : n ≤ m) : c + 64 * (d + n) ≤ M := by omega
theorem le_d0 {c d m M : Nat} (h : c + (d + m) ≤ M) : c + d ≤ M := by omega
theorem le_d02 {c d m M : Nat} (h : c + 64 * (d + m) ≤ M) : c + 64 * d ≤ M := by omega
abbrev TxOK (c : Int32) : Prop := ChrOK c ∧ inR c 32 126 = true
theorem tx_nil : ∀ c ∈ ([] : List Int32), TxOK c := fun _ h => absurd h List.not_mem_nil
theorem tx_app {a b : List Int32} (h1 : ∀ c ∈ a, TxOK c) (h2 : ∀ c ∈ b, TxOK c) : ∀ c ∈ a ++ b, TxOK c := fun c hc => (List.mem_append.mp hc).elim (h1 c) (h2 c)
theorem tx_lit : (∀ c ∈ ltS 16, TxOK c) ∧ (∀ c ∈ ltS 17, TxOK c) ∧ (∀ c ∈ ltS 18, TxOK c) ∧ ∀ c ∈ ltS 19, TxOK c := by
  unfold TxOK ChrOK
  decide +kernel
theorem tx_dgs : ∀ k, k < 21 → ∀ c ∈ dgs k, TxOK c := by
  unfold TxOK ChrOK
  decide +kernel
theorem dgs_1 {k : Nat} (h : k < 10) : (dgs k).length = 1 := by rw [dgs_len1 h]; rfl
theorem dgs_2 {k : Nat} (h1 : ¬ k < 10) (h2 : k < 100) : (dgs k).length = 2 := by rw [dgs_len2 h1 h2]; rfl
theorem bt_lt {m : Nat} {l : List Int32} {f : Nat → Int32} (h : BTx m l f) (h1 : 16 < l.length) (h2 : l.length < 34) : l.length < m := by
  rcases h.1 with e | e
  · have := h.2.1
    omega
  · omega
section RWL
variable {p : Program} {l : Launch} {e : Env} {R : Room} {s : State} {m : MethodId} {args : Array Value} {below : List Frame} {meth : Method} {c : Code} {H H0 : Heap} {locs : List Loc} {cells slots : Nat} {Q : State → Prop}
variable {cc : ByteArray} {pc : Nat} {ls : Array Slot} {rest : List Value} {G : va_G} {cy : Nat → ClassId} {A : Nat → Prop} {Wc : List va_W}
theorem c_lald (hx : p.tables.exec = Jvm.exec) (hb : c.code = cc) (hK : KK G cy s) (hP : va_P G vwCl (fl Wc) H) (j : Nat) {x n : Nat} {f : Nat → Int64} (hj : Wc[j]? = some [(x, .inl (cy 5, n, .inr (.inl f)))]) {i : Int32} {v : Int64} (k : Nat) (hi : i = nI k) (hk : k < n) (hn : n < 2147483648) (hv : f k = v) (hdg : decode cc pc = .ok (.laload, 1))
    (kk : W p l e R s m args below meth c H locs cells slots Q (F0 m (pc + 1) ls (.long v :: rest))) : W p l e R s m args below meth c H locs cells slots Q (F0 m pc ls (.int i :: .ref x :: rest)) := by
  subst hv
  subst hi
  exact va_lald hx hb hK.1 hP _ 5 ((fl_at hj (show 0 < 1 from Nat.one_pos)).trans rfl) rfl (vp_in_nI hk hn) hdg (by rw [nI_clamp (Nat.lt_trans hk hn)]; exact kk)
theorem c_last {Wn : List va_W} (hx : p.tables.exec = Jvm.exec) (hb : c.code = cc) (hK : KK G cy s) (hP : va_P G vwCl (fl Wc) H) (hD : va_D A (fl Wc)) (hS : va_S A H0 H locs) (j : Nat) {x n : Nat} {f : Nat → Int64} (hj : Wc[j]? = some [(x, .inl (cy 5, n, .inr (.inl f)))]) {i : Int32} {v : Int64} (k : Nat) (hi : i = nI k) (hk : k < n) (hn : n < 2147483648) (hw : Wc.set j [(x, .inl (cy 5, n, .inr (.inl (vp_updL f k v))))] = Wn) (hdg : decode cc pc = .ok (.lastore, 1))
    (kk : ∀ (H1 : Heap) (locs1 : List Loc), va_P G vwCl (fl Wn) H1 → va_D A (fl Wn) → va_S A H0 H1 locs1 → W p l e R s m args below meth c H1 locs1 cells slots Q (F0 m (pc + 1) ls rest)) : W p l e R s m args below meth c H locs cells slots Q (F0 m pc ls (.long v :: .int i :: .ref x :: rest)) := by
  subst hi
  refine va_last hx hb hK.1 hP hD hS _ 5 ((fl_at hj (show 0 < 1 from Nat.one_pos)).trans rfl) rfl (vp_in_nI hk hn) hdg (fun H1 locs1 hP hD hS => ?_)
  rw [nI_clamp (Nat.lt_trans hk hn)] at hP hD
  have e : (fl Wc).set (offs Wc j + 0) (x, .inl (cy 5, n, .inr (.inl (vp_updL f k v)))) = fl Wn := by
    rw [fl_eq, fl_eq, ← hw, flat_set hj (show 0 < 1 from Nat.one_pos)]
    rfl
  rw [e] at hP hD
  exact kk H1 locs1 hP hD hS
end RWL
