/-! what the methods of Baths answer, over the rows v (litres), h (heat), me (members) -/
def rdeg (h q : Int32) : Int32 := if q ≤ 0 then 0 else h / q
def wet (v : Nat → Int32) (k : Nat) : Bool := decide (¬ v k ≤ 0)
def hotter (v h : Nat → Int32) (a b : Nat) : Bool := decide (¬ h a * v b ≤ h b * v a)
theorem m_wet {v : Nat → Int32} {k : Nat} (h : wet v k = true) : ¬ v k ≤ 0 := of_decide_eq_true h
def heatOf (v h : Nat → Int32) (k : Nat) (q : Int32) : Int32 := if wet v k = true then h k * q / v k else 0
def cntM (me : Nat → Int32) : Nat → Int32
  | 0 => 0
  | k + 1 => if me k = 0 then cntM me k else cntM me k + 1
def cntW (v me : Nat → Int32) : Nat → Int32
  | 0 => 0
  | k + 1 => if me k = 0 then cntW v me k else if wet v k = true then cntW v me k + 1 else cntW v me k
def sumM (h me : Nat → Int32) : Nat → Int32
  | 0 => 0
  | k + 1 => if me k = 0 then sumM h me k else sumM h me k + h k
def sumO (h me : Nat → Int32) : Nat → Int32
  | 0 => 0
  | k + 1 => if me k = 0 then sumO h me k + h k else sumO h me k
def sumA (h : Nat → Int32) : Nat → Int32
  | 0 => 0
  | k + 1 => sumA h k + h k
def oi : Option Nat → Int32
  | none => -1
  | some j => nI j
def hotO (v h me : Nat → Int32) : Nat → Option Nat
  | 0 => none
  | k + 1 => if me k = 0 then hotO v h me k else if wet v k = true then (match hotO v h me k with
    | none => some k
    | some j => if hotter v h k j = true then some k else some j) else hotO v h me k
def colO (v h me : Nat → Int32) : Nat → Option Nat
  | 0 => none
  | k + 1 => if me k = 0 then colO v h me k else if wet v k = true then (match colO v h me k with
    | none => some k
    | some j => if hotter v h j k = true then some k else some j) else colO v h me k
theorem hotO_lt {v h me : Nat → Int32} : ∀ {k j : Nat}, hotO v h me k = some j → j < k
  | 0, j, q => by simp [hotO] at q
  | k + 1, j, q => by
    simp only [hotO] at q
    split at q
    · have := hotO_lt q; omega
    · split at q
      · split at q
        · cases q; omega
        · next j' hj =>
          have := hotO_lt hj
          split at q <;> cases q <;> omega
      · have := hotO_lt q; omega
theorem colO_lt {v h me : Nat → Int32} : ∀ {k j : Nat}, colO v h me k = some j → j < k
  | 0, j, q => by simp [colO] at q
  | k + 1, j, q => by
    simp only [colO] at q
    split at q
    · have := colO_lt q; omega
    · split at q
      · split at q
        · cases q; omega
        · next j' hj =>
          have := colO_lt hj
          split at q <;> cases q <;> omega
      · have := colO_lt q; omega
def units (v h : Nat → Int32) (a b : Nat) : Int32 :=
  if v a + v b = 0 then 0 else if (h a * v b - h b * v a) / (v a + v b) < 20 then (h a * v b - h b * v a) / (v a + v b) else 20
def rkB (v h : Nat → Int32) (a b : Nat) : Bool :=
  if wet v a = true then (if wet v b = true then (if hotter v h a b = true then true else if a < b then !(hotter v h b a) else false) else true) else if wet v b = true then false else decide (a < b)
def rkN (v h : Nat → Int32) (b : Nat) : Nat → Int32
  | 0 => 0
  | k + 1 => if rkB v h k b = true then rkN v h b k + 1 else rkN v h b k
/-- the first place from k on, d places long, where f is i -/
def atF (f : Nat → Int32) (i : Int32) : Nat → Nat → Int32
  | _, 0 => -1
  | k, d + 1 => if f k = i then nI k else atF f i (k + 1) d
/-- the first k places of g over f -/
def cpN (f g : Nat → Int32) : Nat → Nat → Int32
  | 0 => f
  | k + 1 => upd (cpN f g k) k (g k)
theorem cpN_at {f g : Nat → Int32} : ∀ {k j : Nat}, j < k → cpN f g k j = g j
  | 0, j, h => by omega
  | k + 1, j, h => by
    simp only [cpN, upd]
    split
    · next e => rw [e]
    · exact cpN_at (by omega)
def bzN (n : Nat) (f : Nat → Int32) : Prop := ∀ j, j < n → vp_nar .boolean (f j) = f j
def czN (n : Nat) (f : Nat → Int32) : Prop := ∀ j, j < n → vp_nar .char (f j) = f j
def shH (v h me : Nat → Int32) (N : Nat) : Nat → Int32 :=
  if 2 ≤ cntW v me N then (match hotO v h me N, colO v h me N with
    | some a, some b => upd (upd h a (h a - units v h a b)) b (upd h a (h a - units v h a b) b + units v h a b)
    | _, _ => h) else h
theorem cntW_n {v me : Nat → Int32} (h : Nat → Int32) : ∀ k : Nat, ∃ c : Nat, c ≤ k ∧ cntW v me k = nI c ∧ (hotO v h me k = none → c = 0) ∧ (colO v h me k = none → c = 0)
  | 0 => ⟨0, Nat.le_refl _, rfl, fun _ => rfl, fun _ => rfl⟩
  | k + 1 => by
    obtain ⟨c, h1, h2, h3, h4⟩ := cntW_n (v := v) (me := me) h k
    by_cases q : me k = 0
    · exact ⟨c, by omega, by simp [cntW, q, h2], by simpa [hotO, q] using h3, by simpa [colO, q] using h4⟩
    · by_cases w : wet v k = true
      · refine ⟨c + 1, by omega, by simp only [cntW]; rw [if_neg q, if_pos w, h2, nI_1], fun z => ?_, fun z => ?_⟩
        · exfalso
          simp only [hotO] at z
          rw [if_neg q, if_pos w] at z
          split at z
          · cases z
          · split at z <;> cases z
        · exfalso
          simp only [colO] at z
          rw [if_neg q, if_pos w] at z
          split at z
          · cases z
          · split at z <;> cases z
      · refine ⟨c, by omega, by simp only [cntW]; rw [if_neg q, if_neg w, h2], fun z => h3 ?_, fun z => h4 ?_⟩
        · simp only [hotO] at z
          rwa [if_neg q, if_neg w] at z
        · simp only [colO] at z
          rwa [if_neg q, if_neg w] at z
theorem hotO_some {v h me : Nat → Int32} {N : Nat} (hN : N ≤ 5) (c : 2 ≤ cntW v me N) : ∃ a, hotO v h me N = some a := by
  obtain ⟨n, h1, h2, h3, -⟩ := cntW_n (v := v) (me := me) h N
  cases e : hotO v h me N with
  | some a => exact ⟨a, rfl⟩
  | none =>
    rw [h2, h3 e] at c
    exact absurd c (by decide)
theorem colO_some {v h me : Nat → Int32} {N : Nat} (hN : N ≤ 5) (c : 2 ≤ cntW v me N) : ∃ a, colO v h me N = some a := by
  obtain ⟨n, h1, h2, -, h3⟩ := cntW_n (v := v) (me := me) h N
  cases e : colO v h me N with
  | some a => exact ⟨a, rfl⟩
  | none =>
    rw [h2, h3 e] at c
    exact absurd c (by decide)
