/-! what the methods of Ducks and Events answer -/
def bx (x : Int32) : Nat := x.toNatClampNeg
def dOK (x : Int32) : Prop := x = nI (bx x) ∧ bx x < 5
def plz (v h db dl dh : Nat → Int32) (k : Nat) : Bool :=
  wet v (bx (db k)) && decide (¬ rdeg (h (bx (db k))) (v (bx (db k))) < dl k) && decide (¬ dh k < rdeg (h (bx (db k))) (v (bx (db k))))
def cntP (p : Nat → Bool) : Nat → Int32
  | 0 => 0
  | k + 1 => if p k = true then cntP p k + 1 else cntP p k
def obsW (p : Nat → Bool) (dw : Nat → Int32) : Nat → Nat → Int32
  | 0 => dw
  | k + 1 => upd (obsW p dw k) k (if p k = true then 1 else 0)
def obsQ (p : Nat → Bool) (dq dw : Nat → Int32) : Nat → Nat → Int32
  | 0 => dq
  | k + 1 => if obsW p dw k k = 0 then obsQ p dq dw k else if p k = true then obsQ p dq dw k else upd (obsQ p dq dw k) k (obsQ p dq dw k k + 1)
def rkD (p : Nat → Bool) (dq : Nat → Int32) (a b : Nat) : Bool :=
  if dq a = dq b then (if p a = p b then decide (a < b) else p a) else decide (¬ dq a ≤ dq b)
def rkDN (p : Nat → Bool) (dq : Nat → Int32) (b : Nat) : Nat → Int32
  | 0 => 0
  | k + 1 => if rkD p dq k b = true then rkDN p dq b k + 1 else rkDN p dq b k
/-- a row shifted up by one from place d down -/
def shf : Nat → (Nat → Int32) → Nat → Int32
  | 0, f => f
  | d + 1, f => shf d (upd f (d + 1) (f d))
def psh (f : Nat → Int32) (x : Int32) : Nat → Int32 := fun j => if j = 0 then x else f (j - 1)
def evc (E : Nat) : Nat := if E + 1 < 10 then E + 1 else 10
theorem evc_eq {E : Nat} (h : E ≤ 10) : (nI (evc E)) = if nI E + 1 < 10 then nI E + 1 else 10 := by
  unfold evc
  have e : nI E + 1 < 10 ↔ E + 1 < 10 := m_ltN (nI_1 E) (rfl : (10 : Int32) = nI 10) (by omega) (by omega)
  by_cases q : E + 1 < 10
  · rw [if_pos q, if_pos (e.mpr q), nI_1]
  · rw [if_neg q, if_neg (fun z => q (e.mp z))]
    rfl
theorem evc_le (E : Nat) : evc E ≤ 10 := by unfold evc; split <;> omega
theorem shf_at : ∀ (d : Nat) (f : Nat → Int32) (j : Nat), shf d f j = if d < j then f j else if j = 0 then f 0 else f (j - 1)
  | 0, f, j => by
    by_cases h : j = 0
    · subst h; simp [shf]
    · rw [if_pos (by omega)]; rfl
  | d + 1, f, j => by
    show shf d (upd f (d + 1) (f d)) j = _
    rw [shf_at d]
    by_cases h1 : d + 1 < j
    · rw [if_pos (by omega), if_pos h1]
      exact if_neg (by omega)
    · by_cases h2 : j = d + 1
      · subst h2
        rw [if_pos (by omega), if_neg (by omega), if_neg (by omega)]
        exact if_pos rfl
      · rw [if_neg (by omega), if_neg h1]
        by_cases h3 : j = 0
        · rw [if_pos h3, if_pos h3]
          exact if_neg (by omega)
        · rw [if_neg h3, if_neg h3]
          exact if_neg (by omega)
theorem psh_of {f1 f : Nat → Int32} {x : Int32} {j : Nat} (h : shf 0 f1 = shf 9 f) (hj : j < 10) : upd f1 0 x j = psh f x j := by
  have h1 : f1 = shf 9 f := h
  subst h1
  unfold upd psh
  by_cases q : j = 0
  · rw [if_pos q, if_pos q]
  · rw [if_neg q, if_neg q, shf_at, if_neg (by omega), if_neg q]
theorem czN_upd {n k : Nat} {x : Int32} {f : Nat → Int32} (h : czN n f) (hx : vp_nar .char x = x) : czN n (upd f k x) := by
  intro j hj
  unfold upd
  split
  · exact hx
  · exact h j hj
theorem bzN_upd {n k : Nat} {x : Int32} {f : Nat → Int32} (h : bzN n f) (hx : vp_nar .boolean x = x) : bzN n (upd f k x) := by
  intro j hj
  unfold upd
  split
  · exact hx
  · exact h j hj
