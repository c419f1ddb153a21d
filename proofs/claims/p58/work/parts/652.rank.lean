/-! ranks are places: what stands at a rank is one -/
def cN (r : Nat → Nat → Bool) (b : Nat) : Nat → Nat
  | 0 => 0
  | k + 1 => if r k b = true then cN r b k + 1 else cN r b k
theorem rkN_c {v h : Nat → Int32} {b : Nat} : ∀ k, rkN v h b k = nI (cN (rkB v h) b k)
  | 0 => rfl
  | k + 1 => by
    simp only [rkN, cN]
    split
    · rw [rkN_c k, nI_succ]
    · exact rkN_c k
theorem rkDN_c {p : Nat → Bool} {dq : Nat → Int32} {b : Nat} : ∀ k, rkDN p dq b k = nI (cN (rkD p dq) b k)
  | 0 => rfl
  | k + 1 => by
    simp only [rkDN, cN]
    split
    · rw [rkDN_c k, nI_succ]
    · exact rkDN_c k
theorem cN_le (r : Nat → Nat → Bool) (b : Nat) : ∀ k, cN r b k ≤ k
  | 0 => Nat.le_refl _
  | k + 1 => by
    have := cN_le r b k
    simp only [cN]
    split <;> omega
theorem cN_lt {r : Nat → Nat → Bool} {b : Nat} (h : ¬ r b b = true) : ∀ k, b < k → cN r b k < k
  | 0, hk => absurd hk (Nat.not_lt_zero _)
  | k + 1, hk => by
    simp only [cN]
    by_cases e : k = b
    · subst e
      rw [if_neg h]
      have := cN_le r k k
      omega
    · have := cN_lt h k (by omega)
      split <;> omega
theorem cN_sub {r : Nat → Nat → Bool} {a b : Nat} : ∀ k, (∀ j, j < k → r j a = true → r j b = true) → cN r a k ≤ cN r b k
  | 0, _ => Nat.le_refl _
  | k + 1, h => by
    have h1 := cN_sub k (fun j hj => h j (by omega))
    simp only [cN]
    by_cases e : r k a = true
    · rw [if_pos e, if_pos (h k (by omega) e)]
      omega
    · rw [if_neg e]
      split <;> omega
theorem cN_slt {r : Nat → Nat → Bool} {a b c : Nat} (h1 : r c b = true) (h2 : ¬ r c a = true) : ∀ k, c < k → (∀ j, j < k → r j a = true → r j b = true) → cN r a k < cN r b k
  | 0, hk, _ => absurd hk (Nat.not_lt_zero _)
  | k + 1, hk, h => by
    simp only [cN]
    by_cases e : k = c
    · subst e
      rw [if_neg h2, if_pos h1]
      have := cN_sub k (fun j hj => h j (by omega))
      omega
    · have h3 := cN_slt h1 h2 k (by omega) (fun j hj => h j (by omega))
      by_cases z : r k a = true
      · rw [if_pos z, if_pos (h k (by omega) z)]
        omega
      · rw [if_neg z]
        split <;> omega
theorem pigeon : ∀ (n : Nat) (f : Nat → Nat), (∀ a, a < n → f a < n) → (∀ a b, a < n → b < n → f a = f b → a = b) → ∀ i, i < n → ∃ a, a < n ∧ f a = i
  | 0, _, _, _, i, hi => absurd hi (Nat.not_lt_zero _)
  | n + 1, f, h1, h2, i, hi => by
    have inn : ∀ a, a < n → (if f a = n then f n else f a) < n := by
      intro a ha
      by_cases e : f a = n
      · rw [if_pos e]
        have hv := h1 n (by omega)
        have hne : ¬ f n = n := fun z => by have := h2 a n (by omega) (by omega) (e.trans z.symm); omega
        omega
      · rw [if_neg e]
        have := h1 a (by omega)
        omega
    have inj : ∀ a b, a < n → b < n → (if f a = n then f n else f a) = (if f b = n then f n else f b) → a = b := by
      intro a b ha hb hab
      by_cases e : f a = n
      · by_cases e2 : f b = n
        · exact h2 a b (by omega) (by omega) (e.trans e2.symm)
        · rw [if_pos e, if_neg e2] at hab
          have := h2 n b (by omega) (by omega) hab
          omega
      · by_cases e2 : f b = n
        · rw [if_neg e, if_pos e2] at hab
          have := h2 a n (by omega) (by omega) hab
          omega
        · rw [if_neg e, if_neg e2] at hab
          exact h2 a b (by omega) (by omega) hab
    by_cases e : i = f n
    · exact ⟨n, by omega, e.symm⟩
    · by_cases e2 : i = n
      · have hv := h1 n (by omega)
        obtain ⟨a, ha, hg⟩ := pigeon n _ inn inj (f n) (by omega)
        by_cases z : f a = n
        · exact ⟨a, by omega, by omega⟩
        · rw [if_neg z] at hg
          have := h2 a n (by omega) (by omega) hg
          omega
      · obtain ⟨a, ha, hg⟩ := pigeon n _ inn inj i (by omega)
        by_cases z : f a = n
        · rw [if_pos z] at hg
          exact absurd hg.symm e
        · rw [if_neg z] at hg
          exact ⟨a, by omega, hg⟩
theorem at_uni {f : Nat → Int32} {x : Int32} {a : Nat} : ∀ (d k : Nat), k ≤ a → a < k + d → (∀ j, k ≤ j → j < k + d → f j = x → j = a) → f a = x → atF f x k d = nI a
  | 0, k, h1, h2, _, _ => by omega
  | d + 1, k, h1, h2, h3, h4 => by
    by_cases z : f k = x
    · have e := h3 k (Nat.le_refl _) (by omega) z
      subst e
      exact if_pos z
    · have hk : ¬ k = a := fun e => z (by rw [e]; exact h4)
      show (if f k = x then nI k else atF f x (k + 1) d) = nI a
      rw [if_neg z]
      exact at_uni d (k + 1) (by omega) (by omega) (fun j q1 q2 => h3 j (by omega) (by omega)) h4
theorem las_uni {f : Nat → Int32} {x : Int32} {a : Nat} : ∀ (k : Nat), a < k → (∀ j, j < k → f j = x → j = a) → f a = x → lasF f x k = nI a
  | 0, h, _, _ => absurd h (Nat.not_lt_zero _)
  | k + 1, h, h3, h4 => by
    by_cases z : f k = x
    · have e := h3 k (by omega) z
      subst e
      exact if_pos z
    · have hk : ¬ k = a := fun e => z (by rw [e]; exact h4)
      show (if f k = x then nI k else lasF f x k) = nI a
      rw [if_neg z]
      exact las_uni k (by omega) (fun j q => h3 j (by omega)) h4
theorem cross_lt {ha hb hc va vb vc : Int} (a0 : 0 < va) (b0 : 0 < vb) (c0 : 0 < vc) : (hb * va < ha * vb → hc * vb ≤ hb * vc → hc * va < ha * vc) ∧ (hb * va ≤ ha * vb → hc * vb < hb * vc → hc * va < ha * vc) ∧ (hb * va ≤ ha * vb → hc * vb ≤ hb * vc → hc * va ≤ ha * vc) := by
  have e1 : (hc * va) * vb = (hc * vb) * va := Int.mul_right_comm _ _ _
  have e2 : (hb * vc) * va = (hb * va) * vc := Int.mul_right_comm _ _ _
  have e3 : (ha * vb) * vc = (ha * vc) * vb := Int.mul_right_comm _ _ _
  refine ⟨fun h1 h2 => ?_, fun h1 h2 => ?_, fun h1 h2 => ?_⟩
  · have s1 := Int.mul_le_mul_of_nonneg_right h2 (Int.le_of_lt a0)
    have s2 := Int.mul_lt_mul_of_pos_right h1 c0
    exact Int.lt_of_mul_lt_mul_right (a := vb) (by omega) (Int.le_of_lt b0)
  · have s1 := Int.mul_lt_mul_of_pos_right h2 a0
    have s2 := Int.mul_le_mul_of_nonneg_right h1 (Int.le_of_lt c0)
    exact Int.lt_of_mul_lt_mul_right (a := vb) (by omega) (Int.le_of_lt b0)
  · have s1 := Int.mul_le_mul_of_nonneg_right h2 (Int.le_of_lt a0)
    have s2 := Int.mul_le_mul_of_nonneg_right h1 (Int.le_of_lt c0)
    exact Int.le_of_mul_le_mul_right (a := vb) (by omega) b0
theorem rkB_int {v h : Nat → Int32} (H : Bd v h) {a b : Nat} (ha : a < 5) (hb : b < 5) : rkB v h a b = true ↔ (0 < (v a).toInt ∧ (¬ 0 < (v b).toInt ∨ (h b).toInt * (v a).toInt < (h a).toInt * (v b).toInt ∨ ((h b).toInt * (v a).toInt = (h a).toInt * (v b).toInt ∧ a < b))) ∨ (¬ 0 < (v a).toInt ∧ ¬ 0 < (v b).toInt ∧ a < b) := by
  have e1 := (H.mul ha hb).1
  have e2 := (H.mul hb ha).1
  have w1 : wet v a = true ↔ 0 < (v a).toInt := ti_wet
  have w2 : wet v b = true ↔ 0 < (v b).toInt := ti_wet
  have g1 : hotter v h a b = true ↔ (h b).toInt * (v a).toInt < (h a).toInt * (v b).toInt := by
    unfold hotter
    rw [decide_eq_true_iff, Int32.le_iff_toInt_le, e1, e2]
    omega
  have g2 : hotter v h b a = true ↔ (h a).toInt * (v b).toInt < (h b).toInt * (v a).toInt := by
    unfold hotter
    rw [decide_eq_true_iff, Int32.le_iff_toInt_le, e1, e2]
    omega
  unfold rkB
  by_cases x : wet v a = true
  · rw [if_pos x]
    by_cases y : wet v b = true
    · rw [if_pos y]
      have x2 := w1.mp x
      have y2 := w2.mp y
      by_cases z : hotter v h a b = true
      · rw [if_pos z]
        have z2 := g1.mp z
        exact ⟨fun _ => Or.inl ⟨x2, Or.inr (Or.inl z2)⟩, fun _ => rfl⟩
      · rw [if_neg z]
        have z2 : ¬ (h b).toInt * (v a).toInt < (h a).toInt * (v b).toInt := fun q => z (g1.mpr q)
        by_cases t : a < b
        · rw [if_pos t]
          by_cases u : hotter v h b a = true
          · have u2 := g2.mp u
            rw [u]
            refine ⟨fun q => (by cases q), fun q => ?_⟩
            rcases q with ⟨_, q | q | q⟩ | q <;> omega
          · have u2 : ¬ (h a).toInt * (v b).toInt < (h b).toInt * (v a).toInt := fun q => u (g2.mpr q)
            have u3 : hotter v h b a = false := by simpa using u
            rw [u3]
            exact ⟨fun _ => Or.inl ⟨x2, Or.inr (Or.inr ⟨by omega, t⟩)⟩, fun _ => rfl⟩
        · rw [if_neg t]
          refine ⟨fun q => (by cases q), fun q => ?_⟩
          rcases q with ⟨_, q | q | q⟩ | q <;> omega
    · rw [if_neg y]
      exact ⟨fun _ => Or.inl ⟨w1.mp x, Or.inl (fun q => y (w2.mpr q))⟩, fun _ => rfl⟩
  · rw [if_neg x]
    by_cases y : wet v b = true
    · rw [if_pos y]
      refine ⟨fun q => (by cases q), fun q => ?_⟩
      rcases q with ⟨q, _⟩ | ⟨_, q, _⟩
      · exact absurd (w1.mpr q) x
      · exact absurd (w2.mp y) q
    · rw [if_neg y, decide_eq_true_iff]
      exact ⟨fun q => Or.inr ⟨fun z => x (w1.mpr z), fun z => y (w2.mpr z), q⟩, fun q => by
        rcases q with ⟨q, _⟩ | ⟨_, _, q⟩
        · exact absurd (w1.mpr q) x
        · exact q⟩
/-- one behind the other -/
def Ord9 (r : Nat → Nat → Bool) (N : Nat) : Prop := (∀ a, a < N → ¬ r a a = true) ∧ (∀ a b, a < N → b < N → ¬ a = b → r a b = true ∨ r b a = true) ∧ (∀ a b c, a < N → b < N → c < N → r a b = true → r b c = true → r a c = true)
theorem rank_at {r : Nat → Nat → Bool} {f : Nat → Int32} {N i : Nat} (hN : N < 1000) (hf : ∀ b, f b = nI (cN r b N)) (ho : Ord9 r N) (hi : i < N) : ∃ a, a < N ∧ atF f (nI i) 0 N = nI a ∧ cN r a N = i := by
  obtain ⟨irr, tot, tra⟩ := ho
  have slt : ∀ a b, a < N → b < N → r a b = true → cN r a N < cN r b N := fun a b ha hb h => cN_slt h (irr a ha) N ha (fun j hj hja => tra j a b hj ha hb hja h)
  have inj : ∀ a b, a < N → b < N → cN r a N = cN r b N → a = b := by
    intro a b ha hb hab
    apply Classical.byContradiction
    intro hne
    rcases tot a b ha hb hne with h | h
    · have := slt a b ha hb h; omega
    · have := slt b a hb ha h; omega
  obtain ⟨a, ha, hca⟩ := pigeon N (fun b => cN r b N) (fun b hb => cN_lt (irr b hb) N hb) inj i hi
  have ha2 : f a = nI i := by rw [hf, show cN r a N = i from hca]
  have uni : ∀ j, j < N → f j = nI i → j = a := by
    intro j hj h
    rw [hf] at h
    have hlt := cN_lt (irr j hj) N hj
    exact inj j a hj ha (((nI_eq (by omega) (by omega)).mp h).trans hca.symm)
  exact ⟨a, ha, at_uni N 0 (Nat.zero_le _) (by omega) (fun j _ q => uni j (by omega)) ha2, hca⟩
theorem rank_next {r : Nat → Nat → Bool} {f : Nat → Int32} {N i : Nat} (hN : N < 1000) (hf : ∀ b, f b = nI (cN r b N)) (ho : Ord9 r N) (hi : i + 1 < N) : ∃ a b, a < N ∧ b < N ∧ atF f (nI i) 0 N = nI a ∧ atF f (nI (i + 1)) 0 N = nI b ∧ r a b = true := by
  obtain ⟨a, ha, ea, ca⟩ := rank_at hN hf ho (show i < N by omega)
  obtain ⟨b, hb, eb, cb⟩ := rank_at hN hf ho hi
  refine ⟨a, b, ha, hb, ea, eb, ?_⟩
  obtain ⟨irr, tot, tra⟩ := ho
  have slt : ∀ a b, a < N → b < N → r a b = true → cN r a N < cN r b N := fun a b ha hb h => cN_slt h (irr a ha) N ha (fun j hj hja => tra j a b hj ha hb hja h)
  have hne : ¬ a = b := fun e => by subst e; omega
  rcases tot a b ha hb hne with h | h
  · exact h
  · have := slt b a hb ha h; omega
theorem bath_ord {v h : Nat → Int32} {N : Nat} (H : Bd v h) (hN : N ≤ 5) : Ord9 (rkB v h) N := by
  refine ⟨fun a _ => rkB_irr, fun a b ha hb hne => ?_, fun a b c ha hb hc h1 h2 => ?_⟩
  · rw [rkB_int H (by omega) (by omega), rkB_int H (by omega) (by omega)]
    omega
  · rw [rkB_int H (by omega) (by omega)] at h1 h2 ⊢
    by_cases a0 : 0 < (v a).toInt
    · by_cases c0 : 0 < (v c).toInt
      · by_cases b0 : 0 < (v b).toInt
        · obtain ⟨k1, k2, k3⟩ := cross_lt (ha := (h a).toInt) (hb := (h b).toInt) (hc := (h c).toInt) a0 b0 c0
          obtain ⟨k4, k5, k6⟩ := cross_lt (ha := (h c).toInt) (hb := (h b).toInt) (hc := (h a).toInt) c0 b0 a0
          rcases h1 with ⟨_, q | q | ⟨q, qa⟩⟩ | q
          · exact absurd b0 q
          · rcases h2 with ⟨_, r | r | ⟨r, ra⟩⟩ | r
            · exact absurd c0 r
            · exact Or.inl ⟨a0, Or.inr (Or.inl (k1 q (Int.le_of_lt r)))⟩
            · exact Or.inl ⟨a0, Or.inr (Or.inl (k1 q (Int.le_of_eq r)))⟩
            · exact absurd b0 r.1
          · rcases h2 with ⟨_, r | r | ⟨r, ra⟩⟩ | r
            · exact absurd c0 r
            · exact Or.inl ⟨a0, Or.inr (Or.inl (k2 (Int.le_of_eq q) r))⟩
            · exact Or.inl ⟨a0, Or.inr (Or.inr ⟨Int.le_antisymm (k3 (Int.le_of_eq q) (Int.le_of_eq r)) (k6 (Int.le_of_eq r.symm) (Int.le_of_eq q.symm)), by omega⟩)⟩
            · exact absurd b0 r.1
          · exact absurd a0 q.1
        · rcases h2 with ⟨q, _⟩ | ⟨_, q, _⟩
          · exact absurd q b0
          · exact absurd c0 q
      · exact Or.inl ⟨a0, Or.inl c0⟩
    · rcases h1 with ⟨q, _⟩ | ⟨_, q, q2⟩
      · exact absurd q a0
      · rcases h2 with ⟨r, _⟩ | ⟨_, r, r2⟩
        · exact absurd r q
        · exact Or.inr ⟨a0, r, by omega⟩
theorem rkD_int {p : Nat → Bool} {dq : Nat → Int32} {a b : Nat} : rkD p dq a b = true ↔ (dq b).toInt < (dq a).toInt ∨ ((dq a).toInt = (dq b).toInt ∧ ((p a = true ∧ p b = false) ∨ (p a = p b ∧ a < b))) := by
  unfold rkD
  by_cases x : dq a = dq b
  · rw [if_pos x]
    have x2 : (dq a).toInt = (dq b).toInt := by rw [x]
    by_cases y : p a = p b
    · rw [if_pos y, decide_eq_true_iff]
      refine ⟨fun q => Or.inr ⟨x2, Or.inr ⟨y, q⟩⟩, fun q => ?_⟩
      rcases q with q | ⟨_, q | q⟩
      · omega
      · rw [q.1, q.2] at y; cases y
      · exact q.2
    · rw [if_neg y]
      refine ⟨fun q => Or.inr ⟨x2, Or.inl ⟨q, ?_⟩⟩, fun q => ?_⟩
      · cases hb : p b
        · rfl
        · rw [q, hb] at y; exact absurd rfl y
      · rcases q with q | ⟨_, q | q⟩
        · omega
        · exact q.1
        · exact absurd q.1 y
  · rw [if_neg x, decide_eq_true_iff, Int32.le_iff_toInt_le]
    have x2 : ¬ (dq a).toInt = (dq b).toInt := fun q => x (Int32.toInt_inj.mp q)
    omega
theorem duck_ord {p : Nat → Bool} {dq : Nat → Int32} {N : Nat} : Ord9 (rkD p dq) N := by
  refine ⟨fun a _ z => ?_, fun a b ha hb hne => ?_, fun a b c ha hb hc h1 h2 => ?_⟩
  · rw [rkD_int] at z
    rcases z with z | ⟨_, z | z⟩
    · omega
    · rw [z.1] at z; cases z.2
    · omega
  · rw [rkD_int, rkD_int]
    rcases Int.lt_trichotomy (dq a).toInt (dq b).toInt with q | q | q
    · exact Or.inr (Or.inl q)
    · cases ha2 : p a <;> cases hb2 : p b
      · rcases Nat.lt_or_gt_of_ne hne with t | t
        · exact Or.inl (Or.inr ⟨q, Or.inr ⟨rfl, t⟩⟩)
        · exact Or.inr (Or.inr ⟨q.symm, Or.inr ⟨rfl, t⟩⟩)
      · exact Or.inr (Or.inr ⟨q.symm, Or.inl ⟨rfl, rfl⟩⟩)
      · exact Or.inl (Or.inr ⟨q, Or.inl ⟨rfl, rfl⟩⟩)
      · rcases Nat.lt_or_gt_of_ne hne with t | t
        · exact Or.inl (Or.inr ⟨q, Or.inr ⟨rfl, t⟩⟩)
        · exact Or.inr (Or.inr ⟨q.symm, Or.inr ⟨rfl, t⟩⟩)
    · exact Or.inl (Or.inl q)
  · rw [rkD_int] at h1 h2 ⊢
    rcases h1 with h1 | ⟨h1, k1⟩
    · rcases h2 with h2 | ⟨h2, k2⟩
      · exact Or.inl (by omega)
      · exact Or.inl (by omega)
    · rcases h2 with h2 | ⟨h2, k2⟩
      · exact Or.inl (by omega)
      · refine Or.inr ⟨by omega, ?_⟩
        rcases k1 with ⟨x1, x2⟩ | ⟨x1, x2⟩
        · rcases k2 with ⟨y1, y2⟩ | ⟨y1, y2⟩
          · rw [x2] at y1; cases y1
          · exact Or.inl ⟨x1, by rw [← y1]; exact x2⟩
        · rcases k2 with ⟨y1, y2⟩ | ⟨y1, y2⟩
          · exact Or.inl ⟨by rw [x1]; exact y1, y2⟩
          · exact Or.inr ⟨x1.trans y1, by omega⟩
theorem lt_2 {x : Int32} : x < 2 ↔ x ≤ 1 := by
  rw [Int32.lt_iff_toInt_lt, Int32.le_iff_toInt_le, show (2 : Int32).toInt = 2 from by decide, show (1 : Int32).toInt = 1 from by decide]
  omega
theorem hot_none {v h me : Nat → Int32} : ∀ k, hotO v h me k = none → cntW v me k = 0
  | 0, _ => rfl
  | k + 1, q => by
    simp only [hotO] at q
    simp only [cntW]
    split at q
    · next z => rw [if_pos z]; exact hot_none k q
    · next z =>
      rw [if_neg z]
      split at q
      · next y =>
        split at q
        · cases q
        · split at q <;> cases q
      · next y => rw [if_neg y]; exact hot_none k q
theorem col_none {v h me : Nat → Int32} : ∀ k, colO v h me k = none → cntW v me k = 0
  | 0, _ => rfl
  | k + 1, q => by
    simp only [colO] at q
    simp only [cntW]
    split at q
    · next z => rw [if_pos z]; exact col_none k q
    · next z =>
      rw [if_neg z]
      split at q
      · next y =>
        split at q
        · cases q
        · split at q <;> cases q
      · next y => rw [if_neg y]; exact col_none k q
theorem hot_wet {v h me : Nat → Int32} : ∀ k {j}, hotO v h me k = some j → wet v j = true
  | 0, j, q => by simp [hotO] at q
  | k + 1, j, q => by
    simp only [hotO] at q
    split at q
    · exact hot_wet k q
    · split at q
      · next y =>
        split at q
        · cases q; exact y
        · next j' hj =>
          split at q
          · cases q; exact y
          · cases q; exact hot_wet k hj
      · exact hot_wet k q
theorem wet_nz {v h : Nat → Int32} (H : Bd v h) {a b : Nat} (ha : a < 5) (hb : b < 5) (hw : wet v a = true) : ¬ v a + v b = 0 := by
  have h1 := ti_wet.mp hw
  obtain ⟨⟨a1, a2⟩, -⟩ := H a ha
  obtain ⟨⟨b1, b2⟩, -⟩ := H b hb
  intro z
  have e : (v a + v b).toInt = (v a).toInt + (v b).toInt := by
    rw [Int32.toInt_add]
    exact Int.bmod_eq_of_le (by omega) (by omega)
  rw [z, Int32.toInt_zero] at e
  omega
