/-! facts for the law's cases -/
def ChrOK (c : Int32) : Prop := ((c &&& 255).toUInt32 % 65536).toInt32 = c ∧ vp_nar .char c = c
theorem at_nI {f : Nat → Int32} {i : Int32} : ∀ {d k : Nat}, ¬ atF f i k d = -1 → ∃ n, n < k + d ∧ atF f i k d = nI n
  | 0, k, h => absurd rfl h
  | d + 1, k, h => by
    by_cases z : f k = i
    · exact ⟨k, by omega, if_pos z⟩
    · have e : atF f i k (d + 1) = atF f i (k + 1) d := if_neg z
      rw [e] at h
      obtain ⟨n, h1, h2⟩ := at_nI h
      exact ⟨n, by omega, e.trans h2⟩
theorem sum_MO (h me : Nat → Int32) : ∀ N, sumM h me N + sumO h me N = sumA h N
  | 0 => rfl
  | k + 1 => by
    have e := sum_MO h me k
    simp only [sumM, sumO, sumA]
    by_cases z : me k = 0
    · rw [if_pos z, if_pos z, ← e, Int32.add_assoc]
    · rw [if_neg z, if_neg z, ← e, Int32.add_assoc, Int32.add_assoc, Int32.add_comm (h k)]
theorem sum_M (h me : Nat → Int32) (N : Nat) : sumM h me N = sumA h N - sumO h me N := by
  rw [← sum_MO h me N, Int32.add_sub_cancel]
theorem of_add {x y z : Int32} (h : x + y = z) : x = z - y := by
  rw [← h, Int32.add_sub_cancel]
theorem chr_v (x : Int32) : vp_nar .char ((x.toUInt32 % 65536).toInt32) = (x.toUInt32 % 65536).toInt32 := by
  show (((x.toUInt32 % 65536).toInt32).toUInt32 % 65536).toInt32 = (x.toUInt32 % 65536).toInt32
  have e : ((x.toUInt32 % 65536).toInt32).toUInt32 = x.toUInt32 % 65536 := by simp
  rw [e]
  congr 1
  apply UInt32.toNat_inj.mp
  rw [UInt32.toNat_mod, UInt32.toNat_mod]
  exact Nat.mod_mod _ _
/-- the digits -/
theorem dgs_ok {n : Nat} (h : n < 1000) : ∀ c ∈ dgs n, ChrOK c := by
  have e : ∀ d, d < 10 → ChrOK (nI (48 + d)) := by unfold ChrOK; decide
  intro c hc
  unfold dgs at hc
  split at hc
  · simp only [List.mem_cons, List.not_mem_nil, or_false] at hc
    rw [hc]; exact e _ (by omega)
  · split at hc
    · simp only [List.mem_cons, List.not_mem_nil, or_false] at hc
      rcases hc with hc | hc <;> rw [hc]
      · exact e _ (by omega)
      · exact e _ (by omega)
    · simp only [List.mem_cons, List.not_mem_nil, or_false] at hc
      rcases hc with hc | hc | hc <;> rw [hc]
      · exact e _ (by omega)
      · exact e _ (by omega)
      · exact e _ (by omega)
theorem wrS_at : ∀ (xs : List Int32) (k : Nat) (f : Nat → Int32) (j : Nat), (j < k → wrS f k xs j = f j) ∧ (k ≤ j → j < k + xs.length → ∃ c, c ∈ xs ∧ ∀ g, wrS g k xs j = c)
  | [], k, f, j => ⟨fun _ => rfl, fun h1 h2 => absurd h2 (by simp only [List.length_nil]; omega)⟩
  | x :: xs, k, f, j => by
    obtain ⟨h1, h2⟩ := wrS_at xs (k + 1) (upd f k x) j
    refine ⟨fun h => ?_, fun h3 h4 => ?_⟩
    · show wrS (upd f k x) (k + 1) xs j = f j
      rw [h1 (by omega)]
      exact m_updN (by omega)
    · by_cases e : j = k
      · subst e
        refine ⟨x, List.mem_cons_self, fun g => ?_⟩
        show wrS (upd g j x) (j + 1) xs j = x
        rw [(wrS_at xs (j + 1) (upd g j x) j).1 (by omega)]
        exact m_updS
      · obtain ⟨c, hc, hg⟩ := h2 (by omega) (by simp only [List.length_cons] at h4; omega)
        exact ⟨c, List.mem_cons_of_mem _ hc, fun g => hg (upd g k x)⟩
theorem rnd_ok {σ : St} {j : Nat} (hj : j < 5) (H : WtA (vB σ) (hB σ)) : (rnd σ j).length ≤ 16 ∧ ∀ c ∈ rnd σ j, ChrOK c := by
  have l1 := (dgs_le j).2
  have l2 := (dgs_le (bx (vB σ j))).2
  have l3 := (dgs_le (bx (rdeg (hB σ j) (vB σ j)))).2
  have b2 := (bx_v H.bd hj).2
  have b3 := (bx_r H hj).2
  have k58 : ChrOK 58 := by unfold ChrOK; decide
  have k108 : ChrOK 108 := by unfold ChrOK; decide
  have k67 : ChrOK 67 := by unfold ChrOK; decide
  have k45 : ChrOK 45 := by unfold ChrOK; decide
  have k43 : ChrOK 43 := by unfold ChrOK; decide
  have k42 : ChrOK 42 := by unfold ChrOK; decide
  have one : ∀ {x c : Int32}, ChrOK x → c ∈ [x] → ChrOK c := fun hx hc => by rw [List.mem_singleton.mp hc]; exact hx
  refine ⟨?_, fun c hc => ?_⟩
  · unfold rnd
    simp only [List.length_append, List.length_cons, List.length_nil]
    split <;> split <;> simp only [List.length_append, List.length_cons, List.length_nil] <;> omega
  · unfold rnd at hc
    rcases List.mem_append.mp hc with hc | hc
    · rcases List.mem_append.mp hc with hc | hc
      · rcases List.mem_append.mp hc with hc | hc
        · rcases List.mem_append.mp hc with hc | hc
          · rcases List.mem_append.mp hc with hc | hc
            · rcases List.mem_append.mp hc with hc | hc
              · exact dgs_ok (by omega) c hc
              · exact one k58 hc
            · exact dgs_ok (by omega) c hc
          · exact one k108 hc
        · split at hc
          · rcases List.mem_append.mp hc with hc | hc
            · exact dgs_ok (by omega) c hc
            · exact one k67 hc
          · cases hc
      · split at hc
        · exact one k45 hc
        · exact one k43 hc
    · split at hc
      · cases hc
      · exact one k42 hc
/-- what a script comes to -/
theorem lpC_n {f : Nat → Int32} {L : Nat} : ∀ (d : Nat) (x : Lx) (s : Cs), x.1 ≤ L → s.1 ≤ 13 → (lpC f L d x s).1.1 ≤ L ∧ (lpC f L d x s).2.1 ≤ 13
  | 0, x, s, h, h2 => ⟨h, h2⟩
  | d + 1, x, s, h, h2 => by
    have c1 : (cmd f L x).1.1 ≤ L := cmd_le h
    have c2 : (addC (cmd f L x) s).1 ≤ 13 := adN_le h2
    have c3 : (sg f L 59 (cmd f L x).1).1 ≤ L := sg_le (by decide) c1
    show (if (cmd f L x).1.1 < L then (if (sg f L 59 (cmd f L x).1).2 = true then (sg f L 59 (cmd f L x).1, addC (cmd f L x) s) else lpC f L d (sg f L 59 (cmd f L x).1) (addC (cmd f L x) s)) else ((cmd f L x).1, addC (cmd f L x) s)).1.1 ≤ L ∧ _
    show _ ∧ (if (cmd f L x).1.1 < L then (if (sg f L 59 (cmd f L x).1).2 = true then (sg f L 59 (cmd f L x).1, addC (cmd f L x) s) else lpC f L d (sg f L 59 (cmd f L x).1) (addC (cmd f L x) s)) else ((cmd f L x).1, addC (cmd f L x) s)).2.1 ≤ 13
    split
    · split
      · exact ⟨c3, c2⟩
      · exact lpC_n d _ _ c3 c2
    · exact ⟨c1, c2⟩
theorem rnC_in {g : Cs} : ∀ (d i n : Nat) (τ : St), Inv n τ → n + 20 * d + 21 < 2147483648 → Inv (n + 20 * d) (rnC g i d τ).1 ∧ ∀ k, (rnC g i d τ).2 = some k → k < i + d
  | 0, i, n, τ, h, _ => ⟨h, fun k hk => by cases hk⟩
  | d + 1, i, n, τ, h, hn => by
    show Inv _ (if fltC τ (g.2.1 i) (g.2.2.1 i) (g.2.2.2.1 i) (g.2.2.2.2 i) = 0 then rnC g (i + 1) d (appC τ (g.2.1 i) (g.2.2.1 i) (g.2.2.2.1 i) (g.2.2.2.2 i)) else (τ, some i)).1 ∧ ∀ k, (if fltC τ (g.2.1 i) (g.2.2.1 i) (g.2.2.2.1 i) (g.2.2.2.2 i) = 0 then rnC g (i + 1) d (appC τ (g.2.1 i) (g.2.2.1 i) (g.2.2.2.1 i) (g.2.2.2.2 i)) else (τ, some i)).2 = some k → _
    split
    · next z =>
      obtain ⟨h1, h2⟩ := rnC_in (g := g) d (i + 1) (n + 20) _ (appC_inv h (by omega) z) (by omega)
      exact ⟨h1.mono (by omega), fun k hk => by have := h2 k hk; omega⟩
    · exact ⟨h.mono (by omega), fun k hk => by cases hk; omega⟩
