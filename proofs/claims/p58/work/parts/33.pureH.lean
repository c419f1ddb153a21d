/-! for the ring of states -/
theorem wA_subF {A : Nat → Prop} {Wc cs : List va_W} (hD : va_D A (fl Wc)) (js : List Nat) (h : js.map (fun j => Wc[j]?) = cs.map some) : ∀ q, wA (fl cs) q → A q := wA_sub hD (poss Wc js) (poss_F h)
theorem fl_at {Wc : List va_W} {j i : Nat} {c : va_W} (h : Wc[j]? = some c) (hi : i < c.length) : (fl Wc)[offs Wc j + i]? = c[i]? := by
  rw [fl_eq]
  exact flat_at h hi
theorem ring_fl {cy : Nat → ClassId} {ra : Nat → Nat → Nat} {ρ : Nat → St} {a b c : va_W} : fl [a, b, c, ringW cy ra ρ] = fl (a :: b :: c :: ringC cy ra ρ) := by
  rw [fl_eq, fl_eq]
  simp [ringW]
theorem ring_ji {l : List va_W} {a b c x : va_W} {k : Nat} (h : l[k]? = some x) : [k + 3, 2].map (fun j => (a :: b :: c :: l)[j]?) = [x, c].map some := by
  show [l[k]?, some c] = [some x, some c]
  rw [h]
theorem ring_jo {l : List va_W} {a b c x : va_W} {k : Nat} (h : l[k]? = some x) : [2, k + 3].map (fun j => (a :: b :: c :: l)[j]?) = [c, x].map some := by
  show [some c, l[k]?] = [some c, some x]
  rw [h]
theorem ring_nd_i {k : Nat} : va_nd [k + 3, 2] = true := by
  simp [va_nd]
theorem ring_nd_o {k : Nat} : va_nd [2, k + 3] = true := by
  simp [va_nd]
theorem ring_wi {cy : Nat → ClassId} {ra : Nat → Nat → Nat} {ρ : Nat → St} {σ : St} {a b c : va_W} {k : Nat} : fl (csets (a :: b :: c :: ringC cy ra ρ) [k + 3, 2] [sWd cy (ra k) σ, c]) = fl (a :: b :: c :: ringC cy ra (updR ρ k σ)) := by
  show fl (a :: b :: c :: (ringC cy ra ρ).set k (sWd cy (ra k) σ)) = _
  rw [ring_set]
theorem set_same {l : List va_W} {k : Nat} {x : va_W} (h : l[k]? = some x) : l.set k x = l := by
  apply List.ext_getElem?
  intro j
  by_cases e : j = k
  · subst e
    rw [List.getElem?_set_self (List.getElem?_eq_some_iff.mp h).1, h]
  · rw [List.getElem?_set_ne (Ne.symm e)]
theorem ring_wo {l : List va_W} {a b c x y : va_W} {k : Nat} (h : l[k]? = some x) : fl (csets (a :: b :: c :: l) [2, k + 3] [y, x]) = fl (a :: b :: y :: l) := by
  show fl (a :: b :: y :: l.set k x) = _
  rw [set_same h]
theorem m_in8 {k : Nat} (h : k < 8) : vp_in (nI k) 8 := by
  have e : (nI k).toNatClampNeg = k := nI_clamp (by omega)
  intro z
  rcases z with z | z
  · rw [Int32.lt_iff_toInt_lt, nI_toInt (by omega), Int32.toInt_zero] at z
    omega
  · rw [e] at z
    omega
theorem m_rem8 {x : Int32} {k : Nat} (hx : x = nI k) (hk : k < 1000) : x - x / 8 * 8 = nI (k % 8) := by
  have e0 : (nI k).toInt = k := nI_toInt (by omega)
  have e1 : (nI k / 8).toInt = ((k / 8 : Nat) : Int) := by
    rw [Int32.toInt_div_of_ne_right _ _ (by decide), e0, show (8 : Int32).toInt = 8 from by decide, Int.tdiv_eq_ediv_of_nonneg (by omega)]
    omega
  have e2 : (nI k / 8 * 8).toInt = ((k / 8 : Nat) : Int) * 8 := ti_mul e1 (by decide) (by omega) (by omega)
  rw [hx, ← Int32.toInt_inj, ti_sub e0 e2 (by omega) (by omega), nI_toInt (by omega)]
  omega
theorem m_add78 (k : Nat) : nI k + 8 - 1 = nI (k + 7) := m_pred (m_add (a := k) (b := 8) rfl rfl)
theorem m_min8 {k : Nat} (h : k ≤ 8) : (if nI k + 1 < 8 then nI k + 1 else 8) = nI (kInc k) := by
  rw [show nI k + 1 = nI (k + 1) from nI_1 k]
  unfold kInc
  by_cases e : k = 8
  · subst e
    rfl
  · rw [if_neg e]
    by_cases z : k + 1 < 8
    · exact if_pos ((nI_ltI (a := k + 1) (b := 8) (by omega) (by omega)).mpr z)
    · rw [if_neg (show ¬ (nI (k + 1) < 8) from fun q => z ((nI_ltI (a := k + 1) (b := 8) (by omega) (by omega)).mp q)), show k = 7 by omega]
      rfl
theorem ring_f4 {cy : Nat → ClassId} {ra : Nat → Nat → Nat} {ρ ρ' : Nat → St} {na : Nat → Nat} {σ τ : St} {h A : Nat} {x y z : va_E} : (fl [[(h, x)], [(A, z)], sWd cy na σ, ringW cy ra ρ]).map Prod.fst = (fl [[(h, y)], [(A, z)], sWd cy na τ, ringW cy ra ρ']).map Prod.fst := by
  simp only [fl, List.map_append, ring_fst (ρ := ρ) (ρ' := ρ')]
  rfl
theorem ring_l4 {cy : Nat → ClassId} {ra : Nat → Nat → Nat} {ρ ρ' : Nat → St} {na : Nat → Nat} {σ τ : St} {h A : Nat} {x y z : va_E} : ([[(h, x)], [(A, z)], sWd cy na σ, ringW cy ra ρ] : List va_W).map List.length = ([[(h, y)], [(A, z)], sWd cy na τ, ringW cy ra ρ'] : List va_W).map List.length := by
  simp only [List.map_cons, ring_len, List.map_nil]
  rfl
theorem ring_P {G : va_G} {cl : List vw_C} {H : Heap} {cy : Nat → ClassId} {ra : Nat → Nat → Nat} {ρ : Nat → St} {a b c : va_W} (h : va_P G cl (fl [a, b, c, ringW cy ra ρ]) H) : va_P G cl (fl (a :: b :: c :: ringC cy ra ρ)) H := by
  rw [← ring_fl]
  exact h
theorem ring_D {A : Nat → Prop} {cy : Nat → ClassId} {ra : Nat → Nat → Nat} {ρ : Nat → St} {a b c : va_W} (h : va_D A (fl [a, b, c, ringW cy ra ρ])) : va_D A (fl (a :: b :: c :: ringC cy ra ρ)) := by
  rw [← ring_fl]
  exact h
