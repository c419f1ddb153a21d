/-! the reference's reader and the class's say the same -/
theorem wd_8 {f : Nat → Int32} {L : Nat} {x : Lx} : wd f L (ltS 8) x = wd f L wAp (sg f L 116 x) := rfl
theorem wd_9 {f : Nat → Int32} {L : Nat} {x : Lx} : wd f L (ltS 9) x = wd f L wBath x := rfl
theorem wd_10 {f : Nat → Int32} {L : Nat} {x : Lx} : wd f L (ltS 10) x = sg f L 32 x := rfl
theorem wd_12 {f : Nat → Int32} {L : Nat} {x : Lx} : wd f L (ltS 12) x = wd f L wIck (sg f L 116 x) := rfl
theorem wd_13 {f : Nat → Int32} {L : Nat} {x : Lx} : wd f L (ltS 13) x = x := rfl
theorem wd_14 {f : Nat → Int32} {L : Nat} {x : Lx} : wd f L (ltS 14) x = wd f L wOur (sg f L 112 x) := rfl
theorem wd_15 {f : Nat → Int32} {L : Nat} {x : Lx} : wd f L (ltS 15) x = wd f L wLug (sg f L 112 x) := rfl
theorem wd_17 {f : Nat → Int32} {L : Nat} {x : Lx} : wd f L (ltS 17) x = wd f L wDuck x := rfl
theorem wd_18 {f : Nat → Int32} {L : Nat} {x : Lx} : wd f L (ltS 18) x = wd f L wJoin x := rfl
theorem wd_19 {f : Nat → Int32} {L : Nat} {x : Lx} : wd f L (ltS 19) x = wd f L wLeave x := rfl
theorem ix_11 {c : Int32} (a : ¬ c = 99) (b : ¬ c = 119) (d : ¬ c = 104) : ixS 11 c = -1 := by
  show atF (chS 11) c 0 3 = -1
  rw [atF_no (show ¬ chS 11 0 = c from fun z => a z.symm), atF_no (show ¬ chS 11 1 = c from fun z => b z.symm), atF_no (show ¬ chS 11 2 = c from fun z => d z.symm)]
  rfl
theorem ix_16 {c : Int32} (a : ¬ c = 45) (b : ¬ c = 43) : ixS 16 c = -1 := by
  show atF (chS 16) c 0 2 = -1
  rw [atF_no (show ¬ chS 16 0 = c from fun z => a z.symm), atF_no (show ¬ chS 16 1 = c from fun z => b z.symm)]
  rfl
theorem lt_tl {f : Nat → Int32} {L : Nat} {x : Lx} : ltX 11 f L x = tlX f L x ∧ ((tlX f L x).2 = false → ltV 11 f L x = tlV f L x) := by
  by_cases w : x.2 = true
  · rw [tlX_wr w]
    refine ⟨?_, fun z => by rw [w] at z; cases z⟩
    unfold ltX
    rw [if_pos w, ← w]
  have w2 : x.2 = false := by simpa using w
  unfold ltX ltV tlX tlV
  rw [if_neg w, if_neg w]
  by_cases h1 : pk f L x = 99
  · rw [if_pos h1, if_pos h1, sg_y h1, h1, if_neg (by decide), w2]
    exact ⟨rfl, fun _ => by decide⟩
  · rw [if_neg h1, if_neg h1]
    by_cases h2 : pk f L x = 119
    · rw [if_pos h2, if_pos h2, sg_y h2, h2, if_neg (by decide), w2]
      exact ⟨rfl, fun _ => by decide⟩
    · rw [if_neg h2, if_neg h2]
      by_cases h3 : pk f L x = 104
      · rw [sg_y h3, h3, if_neg (by decide), w2]
        exact ⟨rfl, fun _ => by decide⟩
      · rw [sg_n h3, ix_11 h1 h2 h3, if_pos (by decide)]
        exact ⟨rfl, fun z => by cases z⟩
theorem lt_ps {f : Nat → Int32} {L : Nat} {x : Lx} : ltX 16 f L x = psX f L x ∧ ((psX f L x).2 = false → ltV 16 f L x = psV f L x) := by
  by_cases w : x.2 = true
  · rw [psX_wr w]
    refine ⟨?_, fun z => by rw [w] at z; cases z⟩
    unfold ltX
    rw [if_pos w, ← w]
  have w2 : x.2 = false := by simpa using w
  unfold ltX ltV psX psV
  rw [if_neg w, if_neg w]
  by_cases h1 : pk f L x = 43
  · rw [if_pos h1, if_pos h1, sg_y h1, h1, if_neg (by decide), w2]
    exact ⟨rfl, fun _ => by decide⟩
  · rw [if_neg h1, if_neg h1]
    by_cases h3 : pk f L x = 45
    · rw [sg_y h3, h3, if_neg (by decide), w2]
      exact ⟨rfl, fun _ => by decide⟩
    · rw [sg_n h3, ix_16 h3 h1, if_pos (by decide)]
      exact ⟨rfl, fun z => by cases z⟩
/-- what went right -/
theorem sg_ok {f : Nat → Int32} {L : Nat} {x : Lx} {c : Int32} (hc : ¬ c = 0) (h : (sg f L c x).2 = false) : x.2 = false ∧ (sg f L c x).1 = x.1 + 1 ∧ pk f L x = c := by
  by_cases z : pk f L x = c
  · exact ⟨(pk_y hc z).1, by rw [sg_y z], z⟩
  · rw [sg_n z] at h; cases h
theorem dg_ok {f : Nat → Int32} {L : Nat} {x : Lx} (h : (dgX f L x).2 = false) : x.2 = false ∧ (dgX f L x).1 = x.1 + 1 := by
  by_cases z : isD (pk f L x) = true
  · exact ⟨(isD_y z).1, by rw [dgX_y z]⟩
  · rw [dgX_n z] at h; cases h
theorem nm_ok {f : Nat → Int32} {L : Nat} {x : Lx} (h : (nmX f L x).2 = false) : x.2 = false ∧ x.1 + 1 ≤ (nmX f L x).1 := by
  unfold nmX at h ⊢
  split at h
  · next z =>
    rw [if_pos z]
    obtain ⟨a, b⟩ := dg_ok h
    obtain ⟨c, d⟩ := dg_ok a
    exact ⟨c, by omega⟩
  · next z =>
    rw [if_neg z]
    obtain ⟨c, d⟩ := dg_ok h
    exact ⟨c, by omega⟩
theorem tl_ok {f : Nat → Int32} {L : Nat} {x : Lx} (h : (tlX f L x).2 = false) : x.2 = false ∧ (tlX f L x).1 = x.1 + 1 := by
  unfold tlX at h ⊢
  by_cases h1 : pk f L x = 99
  · rw [if_pos h1] at h ⊢; exact ⟨(sg_ok (by decide) h).1, (sg_ok (by decide) h).2.1⟩
  · rw [if_neg h1] at h ⊢
    by_cases h2 : pk f L x = 119
    · rw [if_pos h2] at h ⊢; exact ⟨(sg_ok (by decide) h).1, (sg_ok (by decide) h).2.1⟩
    · rw [if_neg h2] at h ⊢; exact ⟨(sg_ok (by decide) h).1, (sg_ok (by decide) h).2.1⟩
theorem ps_ok {f : Nat → Int32} {L : Nat} {x : Lx} (h : (psX f L x).2 = false) : x.2 = false ∧ (psX f L x).1 = x.1 + 1 := by
  unfold psX at h ⊢
  by_cases h1 : pk f L x = 43
  · rw [if_pos h1] at h ⊢; exact ⟨(sg_ok (by decide) h).1, (sg_ok (by decide) h).2.1⟩
  · rw [if_neg h1] at h ⊢; exact ⟨(sg_ok (by decide) h).1, (sg_ok (by decide) h).2.1⟩
theorem wd_ok {f : Nat → Int32} {L : Nat} : ∀ {l : List Int32} {x : Lx}, (∀ c ∈ l, ¬ c = 0) → (wd f L l x).2 = false → x.2 = false ∧ (wd f L l x).1 = x.1 + l.length
  | [], x, _, h => ⟨h, rfl⟩
  | d :: l, x, hn, h => by
    obtain ⟨a, b⟩ := wd_ok (l := l) (x := sg f L d x) (fun c hc => hn c (List.mem_cons_of_mem _ hc)) h
    obtain ⟨c, e, -⟩ := sg_ok (hn d List.mem_cons_self) a
    refine ⟨c, ?_⟩
    show (wd f L l (sg f L d x)).1 = _
    rw [b, e, List.length_cons]
    omega
theorem tap_ge {f : Nat → Int32} {L : Nat} {x : Lx} (h : (tapC f L x).1.2 = false) : x.2 = false ∧ x.1 + 3 ≤ (tapC f L x).1.1 := by
  by_cases y : pk f L x = 97
  · have e : (tapC f L x).1 = nmX f L (sg f L 32 (tlX f L (sg f L 32 (dgX f L (wd f L wAp x))))) := by unfold tapC; rw [if_pos y]
    rw [e] at h ⊢
    obtain ⟨a1, b1⟩ := nm_ok h
    obtain ⟨a2, b2, -⟩ := sg_ok (by decide) a1
    obtain ⟨a3, b3⟩ := tl_ok a2
    obtain ⟨a4, b4, -⟩ := sg_ok (by decide) a3
    obtain ⟨a5, b5⟩ := dg_ok a4
    obtain ⟨a6, b6⟩ := wd_ok (l := wAp) (by decide) a5
    simp only [List.length_cons, List.length_nil] at b6
    exact ⟨a6, by omega⟩
  · by_cases u : pk f L (wd f L wIck x) = 32
    · have e : (tapC f L x).1 = nmX f L (sg f L 32 (wd f L wIck x)) := by unfold tapC; rw [if_neg y, if_pos u]
      rw [e] at h ⊢
      obtain ⟨a1, b1⟩ := nm_ok h
      obtain ⟨a2, b2, -⟩ := sg_ok (by decide) a1
      obtain ⟨a6, b6⟩ := wd_ok (l := wIck) (by decide) a2
      simp only [List.length_cons, List.length_nil] at b6
      exact ⟨a6, by omega⟩
    · have e : (tapC f L x).1 = wd f L wIck x := by unfold tapC; rw [if_neg y, if_neg u]
      rw [e] at h ⊢
      obtain ⟨a6, b6⟩ := wd_ok (l := wIck) (by decide) h
      simp only [List.length_cons, List.length_nil] at b6
      exact ⟨a6, by omega⟩
theorem plu_ge {f : Nat → Int32} {L : Nat} {x : Lx} (h : (pluC f L x).1.2 = false) : x.2 = false ∧ x.1 + 3 ≤ (pluC f L x).1.1 := by
  by_cases y : pk f L x = 108
  · have e : (pluC f L x).1 = psX f L (sg f L 32 (dgX f L (wd f L wLug x))) := by unfold pluC; rw [if_pos y]
    rw [e] at h ⊢
    obtain ⟨a1, b1⟩ := ps_ok h
    obtain ⟨a2, b2, -⟩ := sg_ok (by decide) a1
    obtain ⟨a5, b5⟩ := dg_ok a2
    obtain ⟨a6, b6⟩ := wd_ok (l := wLug) (by decide) a5
    simp only [List.length_cons, List.length_nil] at b6
    exact ⟨a6, by omega⟩
  · have e : (pluC f L x).1 = nmX f L (sg f L 32 (dgX f L (sg f L 32 (dgX f L (wd f L wOur x))))) := by unfold pluC; rw [if_neg y]
    rw [e] at h ⊢
    obtain ⟨a1, b1⟩ := nm_ok h
    obtain ⟨a2, b2, -⟩ := sg_ok (by decide) a1
    obtain ⟨a3, b3⟩ := dg_ok a2
    obtain ⟨a4, b4, -⟩ := sg_ok (by decide) a3
    obtain ⟨a5, b5⟩ := dg_ok a4
    obtain ⟨a6, b6⟩ := wd_ok (l := wOur) (by decide) a5
    simp only [List.length_cons, List.length_nil] at b6
    exact ⟨a6, by omega⟩
theorem duk_ge {f : Nat → Int32} {L : Nat} {x : Lx} (h : (dukC f L x).1.2 = false) : x.1 + 4 ≤ (dukC f L x).1.1 := by
  have e : (dukC f L x).1 = nmX f L (sg f L 32 (nmX f L (sg f L 32 (dgX f L (wd f L wDuck x))))) := by unfold dukC; dsimp only
  rw [e] at h ⊢
  obtain ⟨a1, b1⟩ := nm_ok h
  obtain ⟨a2, b2, -⟩ := sg_ok (by decide) a1
  obtain ⟨a3, b3⟩ := nm_ok a2
  obtain ⟨a4, b4, -⟩ := sg_ok (by decide) a3
  obtain ⟨a5, b5⟩ := dg_ok a4
  obtain ⟨a6, b6⟩ := wd_ok (l := wDuck) (by decide) a5
  simp only [List.length_cons, List.length_nil] at b6
  omega
theorem cmd_ge {f : Nat → Int32} {L : Nat} {x : Lx} (h : (cmd f L x).1.2 = false) : x.1 + 4 ≤ (cmd f L x).1.1 := by
  by_cases z1 : pk f L x = 98
  · have e : (cmd f L x).1 = wd f L wBath x := by unfold cmd; rw [if_pos z1]
    rw [e] at h ⊢
    obtain ⟨a6, b6⟩ := wd_ok (l := wBath) (by decide) h
    simp only [List.length_cons, List.length_nil] at b6
    omega
  · by_cases z2 : pk f L x = 116
    · have e : (cmd f L x).1 = (tapC f L (sg f L 116 x)).1 := by unfold cmd; rw [if_neg z1, if_pos z2]
      rw [e] at h ⊢
      obtain ⟨a1, b1⟩ := tap_ge h
      obtain ⟨a2, b2, -⟩ := sg_ok (by decide) a1
      omega
    · by_cases z3 : pk f L x = 112
      · have e : (cmd f L x).1 = (pluC f L (sg f L 112 x)).1 := by unfold cmd; rw [if_neg z1, if_neg z2, if_pos z3]
        rw [e] at h ⊢
        obtain ⟨a1, b1⟩ := plu_ge h
        obtain ⟨a2, b2, -⟩ := sg_ok (by decide) a1
        omega
      · by_cases z4 : pk f L x = 100
        · have e : (cmd f L x).1 = (dukC f L x).1 := by unfold cmd; rw [if_neg z1, if_neg z2, if_neg z3, if_pos z4]
          rw [e] at h ⊢
          exact duk_ge h
        · by_cases z5 : pk f L x = 106
          · have e : (cmd f L x).1 = dgX f L (wd f L wJoin x) := by unfold cmd; rw [if_neg z1, if_neg z2, if_neg z3, if_neg z4, if_pos z5]
            rw [e] at h ⊢
            obtain ⟨a5, b5⟩ := dg_ok h
            obtain ⟨a6, b6⟩ := wd_ok (l := wJoin) (by decide) a5
            simp only [List.length_cons, List.length_nil] at b6
            omega
          · by_cases z6 : pk f L x = 108
            · have e : (cmd f L x).1 = dgX f L (wd f L wLeave x) := by unfold cmd; rw [if_neg z1, if_neg z2, if_neg z3, if_neg z4, if_neg z5, if_pos z6]
              rw [e] at h ⊢
              obtain ⟨a5, b5⟩ := dg_ok h
              obtain ⟨a6, b6⟩ := wd_ok (l := wLeave) (by decide) a5
              simp only [List.length_cons, List.length_nil] at b6
              omega
            · have e : (cmd f L x).1 = (x.1, true) := by unfold cmd; rw [if_neg z1, if_neg z2, if_neg z3, if_neg z4, if_neg z5, if_neg z6]
              rw [e] at h
              cases h
/-- the command n in the reference's store -/
def MR (g : Nat → Int32) (n : Nat) (k a b c : Int32) : Prop :=
  (k = 0 ∧ g (4 * n) = 98) ∨ (k = 1 ∧ g (4 * n) = 97 ∧ g (4 * n + 1) = a ∧ g (4 * n + 2) = b ∧ g (4 * n + 3) = c) ∨ (k = 2 ∧ g (4 * n) = 112 ∧ g (4 * n + 1) = a ∧ g (4 * n + 2) = b) ∨ (k = 3 ∧ g (4 * n) = 111 ∧ g (4 * n + 1) = a ∧ g (4 * n + 2) = b ∧ g (4 * n + 3) = c) ∨ (k = 4 ∧ g (4 * n) = 100 ∧ g (4 * n + 1) = a ∧ g (4 * n + 2) = b ∧ g (4 * n + 3) = c) ∨ (k = 5 ∧ g (4 * n) = 106 ∧ g (4 * n + 1) = a) ∨ (k = 6 ∧ g (4 * n) = 108 ∧ g (4 * n + 1) = a) ∨ (k = 7 ∧ g (4 * n) = 107 ∧ g (4 * n + 1) = a)
theorem MR.same {g g' : Nat → Int32} {n : Nat} {k a b c : Int32} (h : MR g n k a b c) (hg : ∀ q, q < 4 * n + 4 → g' q = g q) : MR g' n k a b c := by
  unfold MR at h ⊢
  rw [hg (4 * n) (by omega), hg (4 * n + 1) (by omega), hg (4 * n + 2) (by omega), hg (4 * n + 3) (by omega)]
  exact h
theorem bath_no {f : Nat → Int32} {L : Nat} {x : Lx} (h : ¬ pk f L x = 98) : wd f L (ltS 9) x = (x.1, true) := by
  show wd f L [97, 116, 104] (sg f L 98 x) = _
  rw [sg_n h]
  exact wd_wr (by decide) rfl
set_option maxRecDepth 100000 in
set_option maxHeartbeats 1000000 in
theorem c_X8_readCommand (l : Launch) (G : va_G) (cy : Nat → ClassId) (kS vS : Nat → Nat) (am aS aBf aAs aSv aPa aOu aTx aCo K OM LN CM : Nat) (iS th ea fa : Int32) (x : Lx) (f g : Nat → Int32) (hL : LN ≤ 60) (hx : x.1 ≤ LN) (hcz : czN 60 f) (hok : ∀ j, j < LN → sgOK (f j)) (hw0 : x.2 = false) (hn9 : CM < 60) : ∃ g9 : Nat → Int32, WC l yX8_readCommand wsX8_readCommand { frames := 5, cells := 0, slots := 0, locals := 113 } G (PS G cy kS vS [(am, .inr (12, [.ref aS, .ref aBf, .ref aAs, .ref aSv, .int iS, .ref aPa, .int (nI K), .int th, .ref aOu, .int (nI OM), .ref aTx, .int (nI LN), .int (nI x.1), .int (bI x.2), .int ea, .int fa, .ref aCo, .int (nI CM)])), (aTx, .inl (cy 1, 60, .inl f)), (aCo, .inl (cy 2, 240, .inl g))]) [.ref am] [(am, .inr (12, [.ref aS, .ref aBf, .ref aAs, .ref aSv, .int iS, .ref aPa, .int (nI K), .int th, .ref aOu, .int (nI OM), .ref aTx, .int (nI LN), .int (nI x.1), .int (bI x.2), .int ea, .int fa, .ref aCo, .int (nI CM)])), (aTx, .inl (cy 1, 60, .inl f)), (aCo, .inl (cy 2, 240, .inl g))] [(am, .inr (12, [.ref aS, .ref aBf, .ref aAs, .ref aSv, .int iS, .ref aPa, .int (nI K), .int th, .ref aOu, .int (nI OM), .ref aTx, .int (nI LN), .int (nI ((cmd f LN x).1.1)), .int (bI (cmd f LN x).1.2), .int ea, .int fa, .ref aCo, .int (nI (CM + 1))])), (aTx, .inl (cy 1, 60, .inl f)), (aCo, .inl (cy 2, 240, .inl g9))] none ∧ (∀ q, q < 4 * CM → g9 q = g q) ∧ ((cmd f LN x).1.2 = false → MR g9 CM (cmd f LN x).2.1 (cmd f LN x).2.2.1 (cmd f LN x).2.2.2.1 (cmd f LN x).2.2.2.2) := by
  by_cases h1 : pk f LN x = 116
  · by_cases h2 : pk1 f LN x = 97
    · have hp : pk f LN (sg f LN 116 x) = 97 := (pk1_sg h1).trans h2
      have e9 : cmd f LN x = (nmX f LN (sg f LN 32 (tlX f LN (sg f LN 32 (dgX f LN (wd f LN wAp (sg f LN 116 x)))))), 1, dgV f LN (wd f LN wAp (sg f LN 116 x)), tlV f LN (sg f LN 32 (dgX f LN (wd f LN wAp (sg f LN 116 x)))), nmV f LN (sg f LN 32 (tlX f LN (sg f LN 32 (dgX f LN (wd f LN wAp (sg f LN 116 x))))))) := by
        unfold cmd tapC
        rw [if_neg (show ¬ pk f LN x = 98 by rw [h1]; decide), if_pos h1, if_pos hp]
      have e3 : (nmX f LN (wd f LN (ltS 10) (ltX 11 f LN (wd f LN (ltS 10) (dgX f LN (wd f LN (ltS 8) x)))))) = (cmd f LN x).1 := by
        rw [e9]
        simp only [wd_8, wd_10, lt_tl.1]
      have hc := c_X8_readCommand_tap l G cy kS vS am aS aBf aAs aSv aPa aOu aTx aCo K OM LN CM iS th ea fa x f g hL hx hcz hok hw0 hn9 h1 h2
      rw [e3] at hc
      refine ⟨_, hc, fun q hq => ?_, fun hg => ?_⟩
      · simp only [upd]
        repeat rw [if_neg (by omega)]
      · rw [e9] at hg ⊢
        dsimp only at hg
        have q1 := (sg_ok (by decide) (nm_ok hg).1).1
        exact Or.inr (Or.inl ⟨rfl, (by simp [upd]), (by simp only [wd_8]; simp [upd]), (by simp only [wd_8, wd_10]; simp [upd]; exact lt_tl.2 q1), (by simp only [wd_8, wd_10, lt_tl.1]; simp [upd])⟩)
    · have hp : ¬ pk f LN (sg f LN 116 x) = 97 := fun z => h2 ((pk1_sg h1).symm.trans z)
      by_cases h3 : pk f LN (wd f LN (ltS 12) x) = 32
      · have h4 : pk f LN (wd f LN wIck (sg f LN 116 x)) = 32 := h3
        have e9 : cmd f LN x = (nmX f LN (sg f LN 32 (wd f LN wIck (sg f LN 116 x))), 7, nmV f LN (sg f LN 32 (wd f LN wIck (sg f LN 116 x))), 0, 0) := by
          unfold cmd tapC
          rw [if_neg (show ¬ pk f LN x = 98 by rw [h1]; decide), if_pos h1, if_neg hp, if_pos h4]
        have e3 : (nmX f LN (wd f LN (ltS 10) (wd f LN (ltS 12) x))) = (cmd f LN x).1 := by
          rw [e9]
          simp only [wd_12, wd_10]
        have hc := c_X8_readCommand_tickL l G cy kS vS am aS aBf aAs aSv aPa aOu aTx aCo K OM LN CM iS th ea fa x f g hL hx hcz hok hw0 hn9 h1 h2 h3
        rw [e3] at hc
        refine ⟨_, hc, fun q hq => ?_, fun hg => ?_⟩
        · simp only [upd]
          repeat rw [if_neg (by omega)]
        · rw [e9]
          exact Or.inr (Or.inr (Or.inr (Or.inr (Or.inr (Or.inr (Or.inr (⟨rfl, (by simp [upd]), (by simp only [wd_12, wd_10]; simp [upd])⟩)))))))
      · have h4 : ¬ pk f LN (wd f LN wIck (sg f LN 116 x)) = 32 := h3
        have e9 : cmd f LN x = ((wd f LN wIck (sg f LN 116 x)), 7, 1, 0, 0) := by
          unfold cmd tapC
          rw [if_neg (show ¬ pk f LN x = 98 by rw [h1]; decide), if_pos h1, if_neg hp, if_neg h4]
        have e3 : (wd f LN (ltS 13) (wd f LN (ltS 12) x)) = (cmd f LN x).1 := by
          rw [e9]
          simp only [wd_12, wd_13]
        have hc := c_X8_readCommand_tickS l G cy kS vS am aS aBf aAs aSv aPa aOu aTx aCo K OM LN CM iS th ea fa x f g hL hx hcz hok hw0 hn9 h1 h2 h3
        rw [e3] at hc
        refine ⟨_, hc, fun q hq => ?_, fun hg => ?_⟩
        · simp only [upd]
          repeat rw [if_neg (by omega)]
        · rw [e9]
          exact Or.inr (Or.inr (Or.inr (Or.inr (Or.inr (Or.inr (Or.inr (⟨rfl, (by simp [upd]), (by simp [upd])⟩)))))))
  have m116 := h1
  by_cases h1 : pk f LN x = 112
  · by_cases h2 : pk1 f LN x = 111
    · have hp : ¬ pk f LN (sg f LN 112 x) = 108 := fun z => absurd (((pk1_sg h1).symm.trans z).symm.trans h2) (by decide)
      have e9 : cmd f LN x = (nmX f LN (sg f LN 32 (dgX f LN (sg f LN 32 (dgX f LN (wd f LN wOur (sg f LN 112 x)))))), 3, dgV f LN (wd f LN wOur (sg f LN 112 x)), dgV f LN (sg f LN 32 (dgX f LN (wd f LN wOur (sg f LN 112 x)))), nmV f LN (sg f LN 32 (dgX f LN (sg f LN 32 (dgX f LN (wd f LN wOur (sg f LN 112 x))))))) := by
        unfold cmd pluC
        rw [if_neg (show ¬ pk f LN x = 98 by rw [h1]; decide), if_neg (show ¬ pk f LN x = 116 by rw [h1]; decide), if_pos h1, if_neg hp]
      have e3 : (nmX f LN (wd f LN (ltS 10) (dgX f LN (wd f LN (ltS 10) (dgX f LN (wd f LN (ltS 14) x)))))) = (cmd f LN x).1 := by
        rw [e9]
        simp only [wd_14, wd_10]
      have hc := c_X8_readCommand_pour l G cy kS vS am aS aBf aAs aSv aPa aOu aTx aCo K OM LN CM iS th ea fa x f g hL hx hcz hok hw0 hn9 h1 h2
      rw [e3] at hc
      refine ⟨_, hc, fun q hq => ?_, fun hg => ?_⟩
      · simp only [upd]
        repeat rw [if_neg (by omega)]
      · rw [e9]
        exact Or.inr (Or.inr (Or.inr (Or.inl ⟨rfl, (by simp [upd]), (by simp only [wd_14]; simp [upd]), (by simp only [wd_14, wd_10]; simp [upd]), (by simp only [wd_14, wd_10]; simp [upd])⟩)))
    · by_cases hp : pk f LN (sg f LN 112 x) = 108
      · have e9 : cmd f LN x = (psX f LN (sg f LN 32 (dgX f LN (wd f LN wLug (sg f LN 112 x)))), 2, dgV f LN (wd f LN wLug (sg f LN 112 x)), psV f LN (sg f LN 32 (dgX f LN (wd f LN wLug (sg f LN 112 x)))), 0) := by
          unfold cmd pluC
          rw [if_neg (show ¬ pk f LN x = 98 by rw [h1]; decide), if_neg (show ¬ pk f LN x = 116 by rw [h1]; decide), if_pos h1, if_pos hp]
        have e3 : (ltX 16 f LN (wd f LN (ltS 10) (dgX f LN (wd f LN (ltS 15) x)))) = (cmd f LN x).1 := by
          rw [e9]
          simp only [wd_15, wd_10, lt_ps.1]
        have hc := c_X8_readCommand_plug l G cy kS vS am aS aBf aAs aSv aPa aOu aTx aCo K OM LN CM iS th ea fa x f g hL hx hcz hok hw0 hn9 h1 h2
        rw [e3] at hc
        refine ⟨_, hc, fun q hq => ?_, fun hg => ?_⟩
        · simp only [upd]
          repeat rw [if_neg (by omega)]
        · rw [e9] at hg ⊢
          dsimp only at hg
          exact Or.inr (Or.inr (Or.inl ⟨rfl, (by simp [upd]), (by simp only [wd_15]; simp [upd]), (by simp only [wd_15, wd_10]; simp [upd]; exact lt_ps.2 hg)⟩))
      · have h4 : pk f LN (sg f LN 112 x) = pk1 f LN x := pk1_sg h1
        have ho1 : wd f LN wOur (sg f LN 112 x) = (x.1 + 1, true) := by
          show wd f LN [117, 114, 32] (sg f LN 111 (sg f LN 112 x)) = _
          rw [sg_n (show ¬ pk f LN (sg f LN 112 x) = 111 from fun z => h2 (h4.symm.trans z)), sg_y h1]
          exact wd_wr (by decide) rfl
        have ho2 : wd f LN wLug (sg f LN 112 x) = (x.1 + 1, true) := by
          show wd f LN [117, 103, 32] (sg f LN 108 (sg f LN 112 x)) = _
          rw [sg_n hp, sg_y h1]
          exact wd_wr (by decide) rfl
        have e9 : cmd f LN x = (((x.1 + 1, true) : Lx), 3, dgV f LN (wd f LN wOur (sg f LN 112 x)), dgV f LN (sg f LN 32 (dgX f LN (wd f LN wOur (sg f LN 112 x)))), nmV f LN (sg f LN 32 (dgX f LN (sg f LN 32 (dgX f LN (wd f LN wOur (sg f LN 112 x))))))) := by
          unfold cmd pluC
          rw [if_neg (show ¬ pk f LN x = 98 by rw [h1]; decide), if_neg (show ¬ pk f LN x = 116 by rw [h1]; decide), if_pos h1, if_neg hp, ho1, dgX_wr rfl, sg_wr (by decide) rfl, dgX_wr rfl, sg_wr (by decide) rfl, nmX_wr rfl]
        have e3 : (ltX 16 f LN (wd f LN (ltS 10) (dgX f LN (wd f LN (ltS 15) x)))) = (cmd f LN x).1 := by
          rw [e9]
          rw [wd_15, ho2, dgX_wr rfl, wd_10, sg_wr (by decide) rfl, lt_ps.1, psX_wr rfl]
        have hc := c_X8_readCommand_plug l G cy kS vS am aS aBf aAs aSv aPa aOu aTx aCo K OM LN CM iS th ea fa x f g hL hx hcz hok hw0 hn9 h1 h2
        rw [e3] at hc
        refine ⟨_, hc, fun q hq => ?_, fun hg => ?_⟩
        · simp only [upd]
          repeat rw [if_neg (by omega)]
        · rw [e9] at hg
          cases hg
  have m112 := h1
  by_cases h1 : pk f LN x = 100
  · have e9 : cmd f LN x = (nmX f LN (sg f LN 32 (nmX f LN (sg f LN 32 (dgX f LN (wd f LN wDuck x))))), 4, dgV f LN (wd f LN wDuck x), nmV f LN (sg f LN 32 (dgX f LN (wd f LN wDuck x))), nmV f LN (sg f LN 32 (nmX f LN (sg f LN 32 (dgX f LN (wd f LN wDuck x)))))) := by
      unfold cmd dukC
      rw [if_neg (show ¬ pk f LN x = 98 by rw [h1]; decide), if_neg (show ¬ pk f LN x = 116 by rw [h1]; decide), if_neg (show ¬ pk f LN x = 112 by rw [h1]; decide), if_pos h1]
    have e3 : (nmX f LN (wd f LN (ltS 10) (nmX f LN (wd f LN (ltS 10) (dgX f LN (wd f LN (ltS 17) x)))))) = (cmd f LN x).1 := by
      rw [e9]
      simp only [wd_17, wd_10]
    have hc := c_X8_readCommand_duck l G cy kS vS am aS aBf aAs aSv aPa aOu aTx aCo K OM LN CM iS th ea fa x f g hL hx hcz hok hw0 hn9 h1
    rw [e3] at hc
    refine ⟨_, hc, fun q hq => ?_, fun hg => ?_⟩
    · simp only [upd]
      repeat rw [if_neg (by omega)]
    · rw [e9]
      exact Or.inr (Or.inr (Or.inr (Or.inr (Or.inl ⟨rfl, (by simp [upd]), (by simp only [wd_17]; simp [upd]), (by simp only [wd_17, wd_10]; simp [upd]), (by simp only [wd_17, wd_10]; simp [upd])⟩))))
  have m100 := h1
  by_cases h1 : pk f LN x = 106
  · have e9 : cmd f LN x = (dgX f LN (wd f LN wJoin x), 5, dgV f LN (wd f LN wJoin x), 0, 0) := by
      unfold cmd
      rw [if_neg (show ¬ pk f LN x = 98 by rw [h1]; decide), if_neg (show ¬ pk f LN x = 116 by rw [h1]; decide), if_neg (show ¬ pk f LN x = 112 by rw [h1]; decide), if_neg (show ¬ pk f LN x = 100 by rw [h1]; decide), if_pos h1]
    have e3 : (dgX f LN (wd f LN (ltS 18) x)) = (cmd f LN x).1 := by
      rw [e9]
      simp only [wd_18]
    have hc := c_X8_readCommand_join l G cy kS vS am aS aBf aAs aSv aPa aOu aTx aCo K OM LN CM iS th ea fa x f g hL hx hcz hok hw0 hn9 h1
    rw [e3] at hc
    refine ⟨_, hc, fun q hq => ?_, fun hg => ?_⟩
    · simp only [upd]
      repeat rw [if_neg (by omega)]
    · rw [e9]
      exact Or.inr (Or.inr (Or.inr (Or.inr (Or.inr (Or.inl ⟨rfl, (by simp [upd]), (by simp only [wd_18]; simp [upd])⟩)))))
  have m106 := h1
  by_cases h1 : pk f LN x = 108
  · have e9 : cmd f LN x = (dgX f LN (wd f LN wLeave x), 6, dgV f LN (wd f LN wLeave x), 0, 0) := by
      unfold cmd
      rw [if_neg (show ¬ pk f LN x = 98 by rw [h1]; decide), if_neg (show ¬ pk f LN x = 116 by rw [h1]; decide), if_neg (show ¬ pk f LN x = 112 by rw [h1]; decide), if_neg (show ¬ pk f LN x = 100 by rw [h1]; decide), if_neg (show ¬ pk f LN x = 106 by rw [h1]; decide), if_pos h1]
    have e3 : (dgX f LN (wd f LN (ltS 19) x)) = (cmd f LN x).1 := by
      rw [e9]
      simp only [wd_19]
    have hc := c_X8_readCommand_leave l G cy kS vS am aS aBf aAs aSv aPa aOu aTx aCo K OM LN CM iS th ea fa x f g hL hx hcz hok hw0 hn9 h1
    rw [e3] at hc
    refine ⟨_, hc, fun q hq => ?_, fun hg => ?_⟩
    · simp only [upd]
      repeat rw [if_neg (by omega)]
    · rw [e9]
      exact Or.inr (Or.inr (Or.inr (Or.inr (Or.inr (Or.inr (Or.inl ⟨rfl, (by simp [upd]), (by simp only [wd_19]; simp [upd])⟩))))))
  have m108 := h1
  by_cases h1 : pk f LN x = 97
  · have e9 : cmd f LN x = (((x.1, true) : Lx), 0, 0, 0, 0) := by
      unfold cmd
      rw [if_neg (show ¬ pk f LN x = 98 by rw [h1]; decide), if_neg (show ¬ pk f LN x = 116 by rw [h1]; decide), if_neg (show ¬ pk f LN x = 112 by rw [h1]; decide), if_neg (show ¬ pk f LN x = 100 by rw [h1]; decide), if_neg (show ¬ pk f LN x = 106 by rw [h1]; decide), if_neg (show ¬ pk f LN x = 108 by rw [h1]; decide)]
    have e3 : (nmX f LN (wd f LN (ltS 10) (ltX 11 f LN (wd f LN (ltS 10) (dgX f LN (wd f LN (ltS 9) x)))))) = (cmd f LN x).1 := by
      rw [e9]
      rw [(bath_no (show ¬ pk f LN x = 98 by rw [h1]; decide)), dgX_wr rfl, wd_10, sg_wr (by decide) rfl, lt_tl.1, tlX_wr rfl, wd_10, sg_wr (by decide) rfl, nmX_wr rfl]
    have hc := c_X8_readCommand_w97 l G cy kS vS am aS aBf aAs aSv aPa aOu aTx aCo K OM LN CM iS th ea fa x f g hL hx hcz hok hw0 hn9 h1
    rw [e3] at hc
    refine ⟨_, hc, fun q hq => ?_, fun hg => ?_⟩
    · simp only [upd]
      repeat rw [if_neg (by omega)]
    · rw [e9] at hg
      cases hg
  have m97 := h1
  by_cases h1 : pk f LN x = 111
  · have e9 : cmd f LN x = (((x.1, true) : Lx), 0, 0, 0, 0) := by
      unfold cmd
      rw [if_neg (show ¬ pk f LN x = 98 by rw [h1]; decide), if_neg (show ¬ pk f LN x = 116 by rw [h1]; decide), if_neg (show ¬ pk f LN x = 112 by rw [h1]; decide), if_neg (show ¬ pk f LN x = 100 by rw [h1]; decide), if_neg (show ¬ pk f LN x = 106 by rw [h1]; decide), if_neg (show ¬ pk f LN x = 108 by rw [h1]; decide)]
    have e3 : (nmX f LN (wd f LN (ltS 10) (dgX f LN (wd f LN (ltS 10) (dgX f LN (wd f LN (ltS 9) x)))))) = (cmd f LN x).1 := by
      rw [e9]
      rw [(bath_no (show ¬ pk f LN x = 98 by rw [h1]; decide)), dgX_wr rfl, wd_10, sg_wr (by decide) rfl, dgX_wr rfl, wd_10, sg_wr (by decide) rfl, nmX_wr rfl]
    have hc := c_X8_readCommand_w111 l G cy kS vS am aS aBf aAs aSv aPa aOu aTx aCo K OM LN CM iS th ea fa x f g hL hx hcz hok hw0 hn9 h1
    rw [e3] at hc
    refine ⟨_, hc, fun q hq => ?_, fun hg => ?_⟩
    · simp only [upd]
      repeat rw [if_neg (by omega)]
    · rw [e9] at hg
      cases hg
  have m111 := h1
  by_cases h1 : pk f LN x = 107
  · have e9 : cmd f LN x = (((x.1, true) : Lx), 0, 0, 0, 0) := by
      unfold cmd
      rw [if_neg (show ¬ pk f LN x = 98 by rw [h1]; decide), if_neg (show ¬ pk f LN x = 116 by rw [h1]; decide), if_neg (show ¬ pk f LN x = 112 by rw [h1]; decide), if_neg (show ¬ pk f LN x = 100 by rw [h1]; decide), if_neg (show ¬ pk f LN x = 106 by rw [h1]; decide), if_neg (show ¬ pk f LN x = 108 by rw [h1]; decide)]
    have e3 : (wd f LN (ltS 13) (wd f LN (ltS 9) x)) = (cmd f LN x).1 := by
      rw [e9]
      rw [wd_13, bath_no (show ¬ pk f LN x = 98 by rw [h1]; decide)]
    have hc := c_X8_readCommand_w107 l G cy kS vS am aS aBf aAs aSv aPa aOu aTx aCo K OM LN CM iS th ea fa x f g hL hx hcz hok hw0 hn9 h1 (show (wd f LN (ltS 9) x).2 = true by rw [bath_no (show ¬ pk f LN x = 98 by rw [h1]; decide)])
    rw [e3] at hc
    refine ⟨_, hc, fun q hq => ?_, fun hg => ?_⟩
    · simp only [upd]
      repeat rw [if_neg (by omega)]
    · rw [e9] at hg
      cases hg
  have m107 := h1
  by_cases h9 : pk f LN x = 98
  · have e9 : cmd f LN x = (wd f LN wBath x, 0, 0, 0, 0) := by
      unfold cmd
      rw [if_pos h9]
    have e3 : (wd f LN (ltS 9) x) = (cmd f LN x).1 := by
      rw [e9]
      rw [wd_9]
    have hc := c_X8_readCommand_bath l G cy kS vS am aS aBf aAs aSv aPa aOu aTx aCo K OM LN CM iS th ea fa x f g hL hx hcz hok hw0 hn9 m97 m100 m106 m107 m108 m111 m112 m116
    rw [e3] at hc
    refine ⟨_, hc, fun q hq => ?_, fun hg => ?_⟩
    · simp only [upd]
      repeat rw [if_neg (by omega)]
    · rw [e9]
      exact Or.inl ⟨rfl, (by simp [upd]; exact h9)⟩
  · have e9 : cmd f LN x = (((x.1, true) : Lx), 0, 0, 0, 0) := by
      unfold cmd
      rw [if_neg h9, if_neg m116, if_neg m112, if_neg m100, if_neg m106, if_neg m108]
    have e3 : (wd f LN (ltS 9) x) = (cmd f LN x).1 := by
      rw [e9]
      rw [bath_no h9]
    have hc := c_X8_readCommand_bath l G cy kS vS am aS aBf aAs aSv aPa aOu aTx aCo K OM LN CM iS th ea fa x f g hL hx hcz hok hw0 hn9 m97 m100 m106 m107 m108 m111 m112 m116
    rw [e3] at hc
    refine ⟨_, hc, fun q hq => ?_, fun hg => ?_⟩
    · simp only [upd]
      repeat rw [if_neg (by omega)]
    · rw [e9] at hg
      cases hg
