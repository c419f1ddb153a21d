/-! what a tick does to members, and the ticks until one leaves -/
theorem loseN_mB (σ : St) : ∀ k, mB (loseN σ k) = mB σ
  | 0 => rfl
  | k + 1 => (show mB (lose1 k (loseN σ k)) = mB (loseN σ k) by unfold lose1; split <;> rfl).trans (loseN_mB σ k)
theorem drainN_mB (σ : St) : ∀ k, mB (drainN σ k) = mB σ
  | 0 => rfl
  | k + 1 => (show mB (drain1 k (drainN σ k)) = mB (drainN σ k) by
      unfold drain1
      split
      · split <;> rfl
      · rfl).trans (drainN_mB σ k)
theorem defect1_mB {k : Nat} {σ : St} {i : Nat} (h : ¬ i = k) : mB (defect1 k σ) i = mB σ i := by
  have e : mB (leavS k σ) i = mB σ i := m_updN h
  unfold defect1
  split
  · rfl
  · split
    · split
      · rfl
      · exact e
    · exact e
theorem defect1_out {k : Nat} {σ : St} {i : Nat} (h : mB σ i = 0) : mB (defect1 k σ) i = 0 := by
  by_cases e : i = k
  · subst e
    unfold defect1
    rw [if_pos h]
    exact h
  · rw [defect1_mB e]
    exact h
theorem defectN_out {σ : St} {i : Nat} (h : mB σ i = 0) : ∀ n, mB (defectN σ n) i = 0
  | 0 => h
  | n + 1 => defect1_out (defectN_out h n)
theorem defectN_le {σ : St} {i : Nat} : ∀ n, n ≤ i → mB (defectN σ n) i = mB σ i
  | 0, _ => rfl
  | n + 1, h => (defect1_mB (by omega)).trans (defectN_le n (by omega))
theorem defectN_ge {σ : St} {i : Nat} : ∀ n, i < n → mB (defectN σ n) i = mB (defectN σ (i + 1)) i
  | 0, h => absurd h (Nat.not_lt_zero i)
  | n + 1, h => by
    by_cases e : i = n
    · subst e; rfl
    · exact (defect1_mB e).trans (defectN_ge n (by omega))
theorem mid_nB (σ : St) : nB (shaS (draS (losS σ))) = nB σ := (drainN_nB (losS σ) _).trans (loseN_nB σ _)
theorem mid_mB (σ : St) : mB (shaS (draS (losS σ))) = mB σ := (drainN_mB (losS σ) _).trans (loseN_mB σ _)
theorem tickS_mB (σ : St) : mB (tickS σ) = mB (defectN (shaS (draS (losS σ))) (nB σ)) := by
  show mB (defectN (shaS (draS (losS σ))) (nB (shaS (draS (losS σ))))) = _
  rw [mid_nB]
theorem gnB_iff {σ : St} {k : Nat} (hk : k < nB σ) : gnB (shaS (draS (losS σ))) k = true ↔ ¬ mB σ k = mB (tickS σ) k := by
  unfold gnB
  rw [decide_eq_true_iff, defectN_le k (Nat.le_refl k), mid_mB, tickS_mB, defectN_ge (nB σ) hk]
theorem tick_out {σ : St} {k : Nat} (h : mB σ k = 0) : mB (tickS σ) k = 0 := by
  rw [tickS_mB]
  exact defectN_out (by rw [mid_mB]; exact h) _
def unT (σ : St) (i : Nat) : Nat → Int32
  | 0 => if mB σ i = 0 then -14 else -13
  | 1 => if mB σ i = 0 then -14 else -13
  | t + 2 => if mB (tickN σ t) i = mB (tickN σ (t + 1)) i then unT σ i (t + 1) else nI (t + 1)
theorem tickN_out {σ : St} {i t : Nat} (h : mB (tickN σ t) i = 0) : ∀ d, mB (tickN σ (t + d)) i = 0
  | 0 => h
  | d + 1 => tick_out (tickN_out h d)
theorem unT_stay {σ : St} {i t : Nat} (h : mB (tickN σ t) i = 0) : ∀ d, unT σ i (t + d + 1) = unT σ i (t + 1)
  | 0 => rfl
  | d + 1 => by
    have e : mB (tickN σ (t + d)) i = mB (tickN σ (t + d + 1)) i := (tickN_out h d).trans (tickN_out h (d + 1)).symm
    show unT σ i (t + d + 2) = _
    rw [unT, if_pos e]
    exact unT_stay h d
theorem unT_at {σ : St} {i : Nat} (ho : Ok σ) (hi : i < 5) : ∀ d t, t + d < 1000 → ¬ mB (tickN σ t) i = 0 → unT σ i (t + 1) = -13 → unT σ i (t + d + 1) = (if atF (fun k => mB (tickN σ k) i) 0 (t + 1) d = -1 then -13 else atF (fun k => mB (tickN σ k) i) 0 (t + 1) d)
  | 0, t, _, _, h => h
  | d + 1, t, hl, hm, h => by
    have h1 : mB (tickN σ t) i = 1 := (((ok_tickN ho t).m01) i hi).resolve_left hm
    by_cases z : mB (tickN σ (t + 1)) i = 0
    · have e : atF (fun k => mB (tickN σ k) i) 0 (t + 1) (d + 1) = nI (t + 1) := if_pos z
      rw [e, if_neg (m_nIne (by omega))]
      have e2 := unT_stay z d
      rw [show t + (d + 1) + 1 = t + 1 + d + 1 from by omega, e2]
      show unT σ i (t + 2) = _
      rw [unT, if_neg]
      rw [h1, z]
      decide
    · have e : atF (fun k => mB (tickN σ k) i) 0 (t + 1) (d + 1) = atF (fun k => mB (tickN σ k) i) 0 (t + 1 + 1) d := if_neg z
      rw [e, show t + (d + 1) + 1 = t + 1 + d + 1 from by omega]
      refine unT_at ho hi d (t + 1) (by omega) z ?_
      have h2 : mB (tickN σ (t + 1)) i = 1 := (((ok_tickN ho (t + 1)).m01) i hi).resolve_left z
      show unT σ i (t + 2) = _
      rw [unT, if_pos (h1.trans h2.symm)]
      exact h
theorem unT_end {σ : St} {i : Nat} (ho : Ok σ) (hi : i < 5) : unT σ i 61 = (if mB σ i = 0 then -14 else if atF (fun k => mB (tickN σ k) i) 0 1 60 = -1 then -13 else atF (fun k => mB (tickN σ k) i) 0 1 60) := by
  by_cases z : mB σ i = 0
  · rw [if_pos z]
    refine (unT_stay (σ := σ) (i := i) (t := 0) z 60).trans ?_
    show (if mB σ i = 0 then (-14 : Int32) else -13) = -14
    rw [if_pos z]
  · rw [if_neg z]
    refine unT_at ho hi 60 0 (by omega) z ?_
    show (if mB σ i = 0 then (-14 : Int32) else -13) = -13
    rw [if_neg z]
theorem bit_zero {k : Nat} (hk : k < 5) : ((0 : Int32) >>> (nI k &&& 31)) &&& 1 = 0 := by
  match k, hk with
  | 0, _ => decide
  | 1, _ => decide
  | 2, _ => decide
  | 3, _ => decide
  | 4, _ => decide
def gn5 (b0 b1 b2 b3 b4 : Bool) (n : Nat) : Int32 := gnF (fun k => match k with | 0 => b0 | 1 => b1 | 2 => b2 | 3 => b3 | _ => b4) n
theorem gnF_ext {b c : Nat → Bool} : ∀ n, (∀ k, k < n → b k = c k) → gnF b n = gnF c n
  | 0, _ => rfl
  | n + 1, h => by
    have e := gnF_ext n (fun k hk => h k (by omega))
    simp only [gnF]
    rw [h n (by omega), e]
theorem gn5_bit : ∀ b0 b1 b2 b3 b4 : Bool, ∀ n, n < 6 → ∀ k, k < 5 → k < n → ((gn5 b0 b1 b2 b3 b4 n >>> (nI k &&& 31)) &&& 1 = 1 ↔ (match k with | 0 => b0 | 1 => b1 | 2 => b2 | 3 => b3 | _ => b4) = true) := by
  decide +kernel
theorem gnF_bit {b : Nat → Bool} {n k : Nat} (hn : n ≤ 5) (hk : k < n) : ((gnF b n >>> (nI k &&& 31)) &&& 1 = 1 ↔ b k = true) := by
  have e : gnF b n = gn5 (b 0) (b 1) (b 2) (b 3) (b 4) n := gnF_ext n (fun j hj => by
    match j, hj with
    | 0, _ => rfl
    | 1, _ => rfl
    | 2, _ => rfl
    | 3, _ => rfl
    | 4, _ => rfl
    | j + 5, hj => omega)
  rw [e]
  have h := gn5_bit (b 0) (b 1) (b 2) (b 3) (b 4) n (by omega) k (by omega) hk
  refine h.trans ?_
  match k, hk with
  | 0, _ => exact Iff.rfl
  | 1, _ => exact Iff.rfl
  | 2, _ => exact Iff.rfl
  | 3, _ => exact Iff.rfl
  | 4, _ => exact Iff.rfl
  | k + 5, hk => omega
theorem upd_lt {f A : Nat → Int32} {k : Nat} {v : Int32} (h : ∀ i, i < k → f i = A i) (hv : v = A k) : ∀ i, i < k + 1 → upd f k v i = A i := by
  intro i hi
  by_cases e : i = k
  · subst e
    rw [m_updS]
    exact hv
  · rw [m_updN e]
    exact h i (by omega)
theorem upd_ge {f B : Nat → Int32} {k N : Nat} {v : Int32} (h : ∀ i, k ≤ i → i < N → f i = B i) : ∀ i, k + 1 ≤ i → i < N → upd f k v i = B i := by
  intro i hi hN
  rw [m_updN (by omega)]
  exact h i (by omega) hN
section TKS
variable {p : Program} {l : Launch} {e : Env} {R0 : Room} {s : State} {m : MethodId} {args : Array Value} {below : List Frame} {meth : Method} {c : Code} {H H0 : Heap} {locs : List Loc} {cells slots : Nat} {Q : State → Prop}
variable {cc : ByteArray} {pc : Nat} {ls : Array Slot} {rest : List Value} {G : va_G} {cy : Nat → ClassId} {A : Nat → Prop} {Wc : List va_W} {ro lo : Nat} {ra : Nat → Nat} {σ τ : St} {r : Int32} {y : MethodName} {bytes : ByteArray} {maxL nL index : Nat} {ret : Option FieldType} {rm : Room} {Ts : List Cond} {own : String} {f : Nat → Int32}
/-- a tick on the rows -/
theorem t_S (S : CallFix p m c cc nL s args Ts own) (hK : KK G cy s) (hM : WT l y rm G cy ro ra lo σ τ r) (hnn : nB τ = nB σ) (cw : CallB R0 s args own index y bytes maxL ret wsL_law rm 0 0 2 ∧ (Cond.static y).before args s = true)
    (hP : va_P G vwCl (fl Wc) H) (hD : va_D A (fl Wc)) (hS : va_S A H0 H locs) (hsize : ls.size = nL) (hW : (rest.map fun v => v.category).sum ≤ 8) (j j2 : Nat) (hj : Wc[j]? = some (rowsW cy ro ra σ)) (hj2 : Wc[j2]? = some [(lo, .inl (cy 2, 2, .inl f))]) (hjj : va_nd [j, j2] = true) (Wn : (Nat → Int32) → List va_W) (hw : ∀ f' : Nat → Int32, (Wc.set j (rowsW cy ro ra τ)).set j2 [(lo, .inl (cy 2, 2, .inl f'))] = Wn f') (hf : cells ≤ R0.cells ∧ slots ≤ R0.slots) (hdg : decode cc pc = .ok (.invokestatic index, 3))
    (kk : ∀ (f' : Nat → Int32) (H1 : Heap) (locs1 : List Loc), va_P G vwCl (fl (Wn f')) H1 → va_D A (fl (Wn f')) → va_S A H0 H1 locs1 → W p l e R0 s m args below meth c H1 locs1 cells slots Q (F0 m (pc + 3) ls (.int r :: rest))) : W p l e R0 s m args below meth c H locs cells slots Q (F0 m pc ls (.ref lo :: .ref ro :: rest)) := by
  have hmap : [j, j2].map (fun j => Wc[j]?) = [rowsW cy ro ra σ, [(lo, .inl (cy 2, 2, .inl f))]].map some := by simp only [List.map_cons, List.map_nil, hj, hj2]
  have hC := poss_F hmap
  have hsub := wA_sub hD _ hC
  intro T hT X
  obtain ⟨v, st₀, t, T', L, h0, X', hL, e1, e2, ⟨f', hv, hp, hz, hk⟩, st⟩ := (va_runS S (hM f) cw ⟨fun b2 U g mk q => ⟨q.1, PB.blind U g mk b2 q.2.1, q.2.2⟩, fun U hU hW => ⟨rfl, PB.at hK (PpartC hP [j, j2] hmap) U hU hW, m_Dpart hD _ (poss_nd hjj) hC⟩⟩ (g := F0 m pc ls _) rfl rfl hsize rfl (lv_room hW) hdg hf) T hT X
  cases hv
  rw [h0] at hz hk
  have hsame : SameL [rowsW cy ro ra τ, [(lo, .inl (cy 2, 2, .inl f'))]] [rowsW cy ro ra σ, [(lo, .inl (cy 2, 2, .inl f))]] := ⟨rows_sA hnn, SameA.one, trivial⟩
  have h1 := hsame.fst
  have hw2 : wsets (fl Wc) (poss Wc [j, j2]) (fl [rowsW cy ro ra τ, [(lo, .inl (cy 2, 2, .inl f'))]]) = fl (Wn f') := by
    rw [wsets_F hmap hjj hsame.len, ← hw f']
    rfl
  obtain ⟨t2, a1, b1⟩ := kk f' t.heap (locs ++ L) (hw2 ▸ wsets_P hP hD _ hC h1 hp hk) (hw2 ▸ va_D.same (wsets_fst hC h1) hD)
    ⟨Nat.le_trans hS.1 hz, fun q q1 q2 => (hk q (Nat.lt_of_lt_of_le q1 hS.1) (fun z => q2 (hsub q z))).trans (hS.2.1 q q1 q2), fun q hq => by
      rcases List.mem_append.mp hq with h | h
      · exact hS.2.2 q h
      · exact hsub _ (hL q h)⟩ T' e1 X'
  exact ⟨t2, st t2 a1, b1⟩
end TKS
