/-! worlds out of chunks: a part of the chunks is handed to a callee -/
def offs (Wc : List va_W) (j : Nat) : Nat := ((Wc.take j).map List.length).sum
def poss (Wc : List va_W) : List Nat → List Nat
  | [] => []
  | j :: js => List.range' (offs Wc j) ((Wc[j]?).getD []).length ++ poss Wc js
def csets : List va_W → List Nat → List va_W → List va_W
  | Wc, j :: js, c :: cs => csets (Wc.set j c) js cs
  | Wc, _, _ => Wc
theorem flat_at : ∀ {Wc : List va_W} {j i : Nat} {c : va_W}, Wc[j]? = some c → i < c.length → Wc.flatten[offs Wc j + i]? = c[i]?
  | [], _, _, _, h, _ => by simp at h
  | d :: Wc, 0, i, c, h, hi => by
    have e : d = c := by simpa using h
    subst e
    show (d ++ Wc.flatten)[0 + i]? = d[i]?
    rw [Nat.zero_add, List.getElem?_append_left hi]
  | d :: Wc, j + 1, i, c, h, hi => by
    have h2 : Wc[j]? = some c := by simpa using h
    have e : offs (d :: Wc) (j + 1) = d.length + offs Wc j := by simp [offs]
    show (d ++ Wc.flatten)[_]? = _
    rw [e, Nat.add_assoc, List.getElem?_append_right (Nat.le_add_right _ _), Nat.add_sub_cancel_left]
    exact flat_at h2 hi
theorem range_at {f : Nat → Option (Nat × va_E)} : ∀ {c : va_W} {a : Nat}, (∀ i, i < c.length → f (a + i) = c[i]?) → (List.range' a c.length).map f = c.map some
  | [], _, _ => rfl
  | x :: c, a, h => by
    rw [List.length_cons, List.range'_succ, List.map_cons, List.map_cons]
    have h0 := h 0 (by simp)
    rw [Nat.add_zero] at h0
    rw [h0, range_at (c := c) (a := a + 1) (fun i hi => by
      have := h (i + 1) (by simpa using hi)
      rw [show a + 1 + i = a + (i + 1) by omega, this]
      rfl)]
    rfl
theorem poss_C {Wc : List va_W} : ∀ {js : List Nat} {cs : List va_W}, js.map (fun j => Wc[j]?) = cs.map some → (poss Wc js).map (fun i => Wc.flatten[i]?) = cs.flatten.map some
  | [], [], _ => rfl
  | [], _ :: _, h => by simp at h
  | _ :: _, [], h => by simp at h
  | j :: js, c :: cs, h => by
    simp only [List.map_cons, List.cons.injEq] at h
    show (List.range' (offs Wc j) ((Wc[j]?).getD []).length ++ poss Wc js).map _ = (c ++ cs.flatten).map some
    rw [List.map_append, List.map_append, poss_C h.2, h.1]
    congr 1
    exact range_at (fun i hi => flat_at h.1 hi)
theorem mem_poss {Wc : List va_W} {i : Nat} : ∀ {js : List Nat}, i ∈ poss Wc js → ∃ j c, j ∈ js ∧ Wc[j]? = some c ∧ offs Wc j ≤ i ∧ i < offs Wc j + c.length
  | [], h => by simp [poss] at h
  | j :: js, h => by
    simp only [poss, List.mem_append, List.mem_range'_1] at h
    rcases h with h | h
    · cases hc : Wc[j]? with
      | none => rw [hc] at h; simp at h; omega
      | some c => rw [hc] at h; exact ⟨j, c, List.mem_cons_self, hc, h.1, h.2⟩
    · obtain ⟨k, c, h1, h2⟩ := mem_poss h
      exact ⟨k, c, List.mem_cons_of_mem _ h1, h2⟩
theorem offs_lt : ∀ {Wc : List va_W} {j k : Nat} {c : va_W}, Wc[j]? = some c → j < k → offs Wc j + c.length ≤ offs Wc k
  | [], _, _, _, h, _ => by simp at h
  | d :: Wc, 0, k + 1, c, h, _ => by
    have e : d = c := by simpa using h
    subst e
    simp [offs]
  | d :: Wc, j + 1, k + 1, c, h, hk => by
    have h2 : Wc[j]? = some c := by simpa using h
    have := offs_lt h2 (show j < k by omega)
    simp only [offs, List.take_succ_cons, List.map_cons, List.sum_cons] at this ⊢
    omega
theorem va_nd_app : ∀ {l m : List Nat}, va_nd l = true → va_nd m = true → (∀ x, x ∈ l → ¬ x ∈ m) → va_nd (l ++ m) = true
  | [], _, _, h, _ => h
  | a :: l, m, h1, h2, h3 => by
    simp only [va_nd, Bool.and_eq_true, decide_eq_true_eq] at h1
    show (decide (a ∉ l ++ m) && va_nd (l ++ m)) = true
    rw [va_nd_app h1.2 h2 (fun x hx => h3 x (List.mem_cons_of_mem _ hx)), Bool.and_true, decide_eq_true_eq, List.mem_append]
    rintro (q | q)
    · exact h1.1 q
    · exact h3 a List.mem_cons_self q
theorem va_nd_range : ∀ (n a : Nat), va_nd (List.range' a n) = true
  | 0, _ => rfl
  | n + 1, a => by
    rw [List.range'_succ]
    show (decide (a ∉ List.range' (a + 1) n) && va_nd (List.range' (a + 1) n)) = true
    rw [va_nd_range n (a + 1), Bool.and_true, decide_eq_true_eq, List.mem_range'_1]
    omega
theorem poss_nd {Wc : List va_W} : ∀ {js : List Nat}, va_nd js = true → va_nd (poss Wc js) = true
  | [], _ => rfl
  | j :: js, h => by
    simp only [va_nd, Bool.and_eq_true, decide_eq_true_eq] at h
    refine va_nd_app (va_nd_range _ _) (poss_nd h.2) ?_
    intro x hx hm
    obtain ⟨k, c, h1, h2, h3, h4⟩ := mem_poss hm
    have hjk : ¬ k = j := fun e => h.1 (e ▸ h1)
    rw [List.mem_range'_1] at hx
    cases hc : Wc[j]? with
    | none => rw [hc] at hx; simp at hx; omega
    | some d =>
      rw [hc] at hx
      simp only [Option.getD_some] at hx
      rcases Nat.lt_or_ge k j with z | z
      · have := offs_lt h2 z; omega
      · have := offs_lt hc (show j < k by omega); omega
theorem wsets_app : ∀ {is js : List Nat} {xs ys ws : va_W}, is.length = xs.length → wsets ws (is ++ js) (xs ++ ys) = wsets (wsets ws is xs) js ys
  | [], _, [], _, _, _ => rfl
  | [], _, _ :: _, _, _, h => by simp at h
  | _ :: _, _, [], _, _, h => by simp at h
  | i :: is, js, x :: xs, ys, ws, h => by
    show wsets (ws.set i x) (is ++ js) (xs ++ ys) = _
    rw [wsets_app (by simpa using h)]
    rfl
theorem wsets_mid : ∀ {Y n c : va_W} (X : va_W), n.length = c.length → wsets (X ++ (c ++ Y)) (List.range' X.length c.length) n = X ++ (n ++ Y)
  | Y, [], [], X, _ => rfl
  | _, [], _ :: _, _, h => by simp at h
  | _, _ :: _, [], _, h => by simp at h
  | Y, y :: n, x :: c, X, h => by
    rw [List.length_cons, List.range'_succ]
    show wsets ((X ++ (x :: (c ++ Y))).set X.length y) (List.range' (X.length + 1) c.length) n = _
    rw [List.set_append_right _ _ (Nat.le_refl _), Nat.sub_self, List.set_cons_zero]
    have h2 := wsets_mid (Y := Y) (n := n) (c := c) (X ++ [y]) (by simpa using h)
    rw [List.length_append, List.length_singleton, List.append_assoc, List.append_assoc] at h2
    exact h2
theorem wsets_one : ∀ {Wc : List va_W} {j : Nat} {c n : va_W}, Wc[j]? = some c → n.length = c.length → wsets Wc.flatten (List.range' (offs Wc j) c.length) n = (Wc.set j n).flatten := by
  intro Wc j c n h hn
  have hj := (List.getElem?_eq_some_iff.mp h).1
  have e : Wc.flatten = (Wc.take j).flatten ++ (c ++ (Wc.drop (j + 1)).flatten) := by
    have h2 : Wc = Wc.take j ++ c :: Wc.drop (j + 1) := by
      have h3 := (List.getElem?_eq_some_iff.mp h).2
      rw [← h3, List.getElem_cons_drop, List.take_append_drop]
    conv => lhs; rw [h2]
    rw [List.flatten_append, List.flatten_cons]
  have e2 : (Wc.set j n).flatten = (Wc.take j).flatten ++ (n ++ (Wc.drop (j + 1)).flatten) := by
    rw [List.set_eq_take_append_cons_drop, if_pos hj, List.flatten_append, List.flatten_cons]
  have e3 : offs Wc j = ((Wc.take j).flatten).length := by
    rw [List.length_flatten]; rfl
  rw [e, e2, e3]
  exact wsets_mid _ hn
theorem offs_set {Wc : List va_W} {j : Nat} {c n : va_W} (h : Wc[j]? = some c) (hn : n.length = c.length) : (Wc.set j n).map List.length = Wc.map List.length := by
  rw [List.map_set, hn]
  apply List.ext_getElem?
  intro k
  by_cases hk : k = j
  · subst hk
    rw [List.getElem?_set_self (by rw [List.length_map]; exact (List.getElem?_eq_some_iff.mp h).1), List.getElem?_map, h]
    rfl
  · rw [List.getElem?_set_ne (Ne.symm hk)]
theorem poss_len {Wc Vc : List va_W} (h : Vc.map List.length = Wc.map List.length) : ∀ js : List Nat, poss Vc js = poss Wc js
  | [] => rfl
  | j :: js => by
    have e1 : offs Vc j = offs Wc j := by
      unfold offs
      rw [List.map_take, List.map_take, h]
    have e2 : ((Vc[j]?).getD []).length = ((Wc[j]?).getD []).length := by
      have h2 := congrArg (fun l : List Nat => l[j]?) h
      simp only [List.getElem?_map] at h2
      cases hv : Vc[j]? <;> cases hw : Wc[j]? <;> rw [hv, hw] at h2 <;> simp at h2 ⊢
      exact h2
    show List.range' (offs Vc j) _ ++ poss Vc js = List.range' (offs Wc j) _ ++ poss Wc js
    rw [e1, e2, poss_len h js]
theorem wsets_poss : ∀ {js : List Nat} {Wc cs ns : List va_W}, js.map (fun j => Wc[j]?) = cs.map some → va_nd js = true → ns.map List.length = cs.map List.length → wsets Wc.flatten (poss Wc js) ns.flatten = (csets Wc js ns).flatten
  | [], Wc, cs, ns, h, _, hl => by
    cases cs with
    | nil => cases ns with
      | nil => rfl
      | cons _ _ => simp at hl
    | cons _ _ => simp at h
  | j :: js, Wc, [], _, h, _, _ => by simp at h
  | j :: js, Wc, c :: cs, [], _, _, hl => by simp at hl
  | j :: js, Wc, c :: cs, n :: ns, h, hd, hl => by
    simp only [List.map_cons, List.cons.injEq] at h hl
    simp only [va_nd, Bool.and_eq_true, decide_eq_true_eq] at hd
    show wsets Wc.flatten (List.range' (offs Wc j) ((Wc[j]?).getD []).length ++ poss Wc js) (n ++ ns.flatten) = (csets (Wc.set j n) js ns).flatten
    rw [h.1]
    show wsets Wc.flatten (List.range' (offs Wc j) c.length ++ poss Wc js) (n ++ ns.flatten) = _
    rw [wsets_app (by rw [List.length_range', hl.1]), wsets_one h.1 hl.1, ← poss_len (offs_set h.1 hl.1)]
    refine wsets_poss (cs := cs) ?_ hd.2 hl.2
    rw [← h.2]
    apply List.map_congr_left
    intro k hk
    exact List.getElem?_set_ne (fun e : j = k => hd.1 (by rw [e]; exact hk))
def fl : List va_W → va_W
  | [] => []
  | [c] => c
  | c :: d :: r => c ++ fl (d :: r)
theorem fl_eq : ∀ cs : List va_W, fl cs = cs.flatten
  | [] => rfl
  | [c] => by simp [fl]
  | c :: d :: r => by
    show c ++ fl (d :: r) = c ++ (d :: r).flatten
    rw [fl_eq (d :: r)]
theorem PpartC {G : va_G} {cl : List vw_C} {H : Heap} {Wc cs : List va_W} (hP : va_P G cl (fl Wc) H) (js : List Nat) (h : js.map (fun j => Wc[j]?) = cs.map some) : va_P G cl (fl cs) H := by
  rw [fl_eq] at hP ⊢
  exact m_Ppart hP (poss Wc js) (poss_C h)
theorem poss_F {Wc cs : List va_W} {js : List Nat} (h : js.map (fun j => Wc[j]?) = cs.map some) : (poss Wc js).map (fun i => (fl Wc)[i]?) = (fl cs).map some := by
  rw [fl_eq, fl_eq]
  exact poss_C h
theorem wsets_F {Wc cs ns : List va_W} {js : List Nat} (h : js.map (fun j => Wc[j]?) = cs.map some) (hd : va_nd js = true) (hl : ns.map List.length = cs.map List.length) : wsets (fl Wc) (poss Wc js) (fl ns) = fl (csets Wc js ns) := by
  rw [fl_eq, fl_eq, fl_eq]
  exact wsets_poss h hd hl
theorem inR_iff {x lo hi : Int32} : inR x lo hi = true ↔ ¬ x < lo ∧ ¬ hi < x := by simp [inR]
/-- the states of the ring -/
def ringC (cy : Nat → ClassId) (ra : Nat → Nat → Nat) (ρ : Nat → St) : List va_W := (List.range 8).map fun k => sWd cy (ra k) (ρ k)
def ringW (cy : Nat → ClassId) (ra : Nat → Nat → Nat) (ρ : Nat → St) : va_W := (ringC cy ra ρ).flatten
def updR (ρ : Nat → St) (k : Nat) (σ : St) : Nat → St := fun j => if j = k then σ else ρ j
theorem ring_at {cy : Nat → ClassId} {ra : Nat → Nat → Nat} {ρ : Nat → St} {k : Nat} (hk : k < 8) : (ringC cy ra ρ)[k]? = some (sWd cy (ra k) (ρ k)) := by
  unfold ringC
  rw [List.getElem?_map, List.getElem?_range hk]
  rfl
theorem ring_set {cy : Nat → ClassId} {ra : Nat → Nat → Nat} {ρ : Nat → St} {k : Nat} {σ : St} : (ringC cy ra ρ).set k (sWd cy (ra k) σ) = ringC cy ra (updR ρ k σ) := by
  apply List.ext_getElem?
  intro j
  unfold ringC
  rw [List.getElem?_map]
  by_cases e : j = k
  · subst e
    by_cases hj : j < 8
    · rw [List.getElem?_set_self (by simpa using hj), List.getElem?_range hj]
      simp [updR]
    · rw [List.getElem?_eq_none (by simpa using hj), List.getElem?_eq_none (by simpa using hj)]
      rfl
  · rw [List.getElem?_set_ne (Ne.symm e), List.getElem?_map]
    by_cases hj : j < 8
    · rw [List.getElem?_range hj]
      simp [updR, e]
    · rw [List.getElem?_eq_none (by simpa using hj)]
      rfl
theorem ring_fst {cy : Nat → ClassId} {ra : Nat → Nat → Nat} {ρ ρ' : Nat → St} : (ringW cy ra ρ).map Prod.fst = (ringW cy ra ρ').map Prod.fst := by
  unfold ringW ringC
  rw [List.map_flatten, List.map_flatten, List.map_map, List.map_map]
  exact congrArg List.flatten (List.map_congr_left fun k _ => sWd_fst cy (ra k) (ρ k) (ρ' k))
theorem sWd_len {cy : Nat → ClassId} {a : Nat → Nat} {σ : St} : (sWd cy a σ).length = 17 := rfl
theorem ring_len {cy : Nat → ClassId} {ra : Nat → Nat → Nat} {ρ : Nat → St} : (ringW cy ra ρ).length = 136 := by
  have h : (ringC cy ra ρ).map List.length = (List.range 8).map fun _ => 17 := by
    unfold ringC
    rw [List.map_map]
    exact List.map_congr_left fun k _ => sWd_len
  unfold ringW
  rw [List.length_flatten, h]
  rfl
