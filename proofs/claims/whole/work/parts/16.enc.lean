/-! the reference's row of 89 numbers, out of the parts of a State -/
def encT (N : Nat) (v h p m : Nat → Int32) (M : Nat) (db dl du dq dw : Nat → Int32) (E : Nat) (ek eb el : Nat → Int32) (t1 t2 t3 t4 t5 t6 : Int32) : Nat → Int32 := fun j =>
  if j < 9 then (match j with
    | 0 => nI N | 1 => nI M | 2 => nI E | 3 => t1 | 4 => t2 | 5 => t3 | 6 => t4 | 7 => t5 | _ => t6)
  else if j < 29 then (if (j - 9) % 4 = 0 then v ((j - 9) / 4) else if (j - 9) % 4 = 1 then h ((j - 9) / 4) else if (j - 9) % 4 = 2 then (if p ((j - 9) / 4) = 0 ∧ ((j - 9) / 4) < N then 1 else 0) else m ((j - 9) / 4))
  else if j < 59 then (if (j - 29) % 5 = 0 then db ((j - 29) / 5) else if (j - 29) % 5 = 1 then dl ((j - 29) / 5) else if (j - 29) % 5 = 2 then du ((j - 29) / 5) else if (j - 29) % 5 = 3 then dq ((j - 29) / 5) else dw ((j - 29) / 5))
  else (if (j - 59) % 3 = 0 then ek ((j - 59) / 3) else if (j - 59) % 3 = 1 then eb ((j - 59) / 3) else (if el ((j - 59) / 3) = -1 then 0 else el ((j - 59) / 3)))

theorem encR_v {N M E : Nat} {v h p m db dl du dq dw ek eb el : Nat → Int32} {t1 t2 t3 t4 t5 t6 : Int32} {j b : Nat} (hj : j = 9 + 4 * b + 0) (hb : b < 5) : encT N v h p m M db dl du dq dw E ek eb el t1 t2 t3 t4 t5 t6 j = v b := by
  have e1 : (j - 9) % 4 = 0 := by omega
  have e2 : (j - 9) / 4 = b := by omega
  unfold encT
  rw [if_neg (by omega), if_pos (by omega)]
  simp only [e1, e2]
  rfl
theorem encR_h {N M E : Nat} {v h p m db dl du dq dw ek eb el : Nat → Int32} {t1 t2 t3 t4 t5 t6 : Int32} {j b : Nat} (hj : j = 9 + 4 * b + 1) (hb : b < 5) : encT N v h p m M db dl du dq dw E ek eb el t1 t2 t3 t4 t5 t6 j = h b := by
  have e1 : (j - 9) % 4 = 1 := by omega
  have e2 : (j - 9) / 4 = b := by omega
  unfold encT
  rw [if_neg (by omega), if_pos (by omega)]
  simp only [e1, e2]
  rfl
theorem encR_o {N M E : Nat} {v h p m db dl du dq dw ek eb el : Nat → Int32} {t1 t2 t3 t4 t5 t6 : Int32} {j b : Nat} (hj : j = 9 + 4 * b + 2) (hb : b < 5) : encT N v h p m M db dl du dq dw E ek eb el t1 t2 t3 t4 t5 t6 j = (if p b = 0 ∧ b < N then 1 else 0) := by
  have e1 : (j - 9) % 4 = 2 := by omega
  have e2 : (j - 9) / 4 = b := by omega
  unfold encT
  rw [if_neg (by omega), if_pos (by omega)]
  simp only [e1, e2]
  rfl
theorem encR_m {N M E : Nat} {v h p m db dl du dq dw ek eb el : Nat → Int32} {t1 t2 t3 t4 t5 t6 : Int32} {j b : Nat} (hj : j = 9 + 4 * b + 3) (hb : b < 5) : encT N v h p m M db dl du dq dw E ek eb el t1 t2 t3 t4 t5 t6 j = m b := by
  have e1 : (j - 9) % 4 = 3 := by omega
  have e2 : (j - 9) / 4 = b := by omega
  unfold encT
  rw [if_neg (by omega), if_pos (by omega)]
  simp only [e1, e2]
  rfl
theorem encR_db {N M E : Nat} {v h p m db dl du dq dw ek eb el : Nat → Int32} {t1 t2 t3 t4 t5 t6 : Int32} {j b : Nat} (hj : j = 29 + 5 * b + 0) (hb : b < 6) : encT N v h p m M db dl du dq dw E ek eb el t1 t2 t3 t4 t5 t6 j = db b := by
  have e1 : (j - 29) % 5 = 0 := by omega
  have e2 : (j - 29) / 5 = b := by omega
  unfold encT
  rw [if_neg (by omega), if_neg (by omega), if_pos (by omega)]
  simp only [e1, e2]
  rfl
theorem encR_dl {N M E : Nat} {v h p m db dl du dq dw ek eb el : Nat → Int32} {t1 t2 t3 t4 t5 t6 : Int32} {j b : Nat} (hj : j = 29 + 5 * b + 1) (hb : b < 6) : encT N v h p m M db dl du dq dw E ek eb el t1 t2 t3 t4 t5 t6 j = dl b := by
  have e1 : (j - 29) % 5 = 1 := by omega
  have e2 : (j - 29) / 5 = b := by omega
  unfold encT
  rw [if_neg (by omega), if_neg (by omega), if_pos (by omega)]
  simp only [e1, e2]
  rfl
theorem encR_du {N M E : Nat} {v h p m db dl du dq dw ek eb el : Nat → Int32} {t1 t2 t3 t4 t5 t6 : Int32} {j b : Nat} (hj : j = 29 + 5 * b + 2) (hb : b < 6) : encT N v h p m M db dl du dq dw E ek eb el t1 t2 t3 t4 t5 t6 j = du b := by
  have e1 : (j - 29) % 5 = 2 := by omega
  have e2 : (j - 29) / 5 = b := by omega
  unfold encT
  rw [if_neg (by omega), if_neg (by omega), if_pos (by omega)]
  simp only [e1, e2]
  rfl
theorem encR_dq {N M E : Nat} {v h p m db dl du dq dw ek eb el : Nat → Int32} {t1 t2 t3 t4 t5 t6 : Int32} {j b : Nat} (hj : j = 29 + 5 * b + 3) (hb : b < 6) : encT N v h p m M db dl du dq dw E ek eb el t1 t2 t3 t4 t5 t6 j = dq b := by
  have e1 : (j - 29) % 5 = 3 := by omega
  have e2 : (j - 29) / 5 = b := by omega
  unfold encT
  rw [if_neg (by omega), if_neg (by omega), if_pos (by omega)]
  simp only [e1, e2]
  rfl
theorem encR_dw {N M E : Nat} {v h p m db dl du dq dw ek eb el : Nat → Int32} {t1 t2 t3 t4 t5 t6 : Int32} {j b : Nat} (hj : j = 29 + 5 * b + 4) (hb : b < 6) : encT N v h p m M db dl du dq dw E ek eb el t1 t2 t3 t4 t5 t6 j = dw b := by
  have e1 : (j - 29) % 5 = 4 := by omega
  have e2 : (j - 29) / 5 = b := by omega
  unfold encT
  rw [if_neg (by omega), if_neg (by omega), if_pos (by omega)]
  simp only [e1, e2]
  rfl
theorem encR_ek {N M E : Nat} {v h p m db dl du dq dw ek eb el : Nat → Int32} {t1 t2 t3 t4 t5 t6 : Int32} {j b : Nat} (hj : j = 59 + 3 * b + 0) (hb : b < 10) : encT N v h p m M db dl du dq dw E ek eb el t1 t2 t3 t4 t5 t6 j = ek b := by
  have e1 : (j - 59) % 3 = 0 := by omega
  have e2 : (j - 59) / 3 = b := by omega
  unfold encT
  rw [if_neg (by omega), if_neg (by omega), if_neg (by omega)]
  simp only [e1, e2]
  rfl
theorem encR_eb {N M E : Nat} {v h p m db dl du dq dw ek eb el : Nat → Int32} {t1 t2 t3 t4 t5 t6 : Int32} {j b : Nat} (hj : j = 59 + 3 * b + 1) (hb : b < 10) : encT N v h p m M db dl du dq dw E ek eb el t1 t2 t3 t4 t5 t6 j = eb b := by
  have e1 : (j - 59) % 3 = 1 := by omega
  have e2 : (j - 59) / 3 = b := by omega
  unfold encT
  rw [if_neg (by omega), if_neg (by omega), if_neg (by omega)]
  simp only [e1, e2]
  rfl
theorem encR_el {N M E : Nat} {v h p m db dl du dq dw ek eb el : Nat → Int32} {t1 t2 t3 t4 t5 t6 : Int32} {j b : Nat} (hj : j = 59 + 3 * b + 2) (hb : b < 10) : encT N v h p m M db dl du dq dw E ek eb el t1 t2 t3 t4 t5 t6 j = (if el b = -1 then 0 else el b) := by
  have e1 : (j - 59) % 3 = 2 := by omega
  have e2 : (j - 59) / 3 = b := by omega
  unfold encT
  rw [if_neg (by omega), if_neg (by omega), if_neg (by omega)]
  simp only [e1, e2]
  rfl
theorem encR_0 {N M E : Nat} {v h p m db dl du dq dw ek eb el : Nat → Int32} {t1 t2 t3 t4 t5 t6 : Int32} {j : Nat} (hj : j = 0) : encT N v h p m M db dl du dq dw E ek eb el t1 t2 t3 t4 t5 t6 j = nI N := by subst hj; rfl
theorem encR_1 {N M E : Nat} {v h p m db dl du dq dw ek eb el : Nat → Int32} {t1 t2 t3 t4 t5 t6 : Int32} {j : Nat} (hj : j = 1) : encT N v h p m M db dl du dq dw E ek eb el t1 t2 t3 t4 t5 t6 j = nI M := by subst hj; rfl
theorem encR_2 {N M E : Nat} {v h p m db dl du dq dw ek eb el : Nat → Int32} {t1 t2 t3 t4 t5 t6 : Int32} {j : Nat} (hj : j = 2) : encT N v h p m M db dl du dq dw E ek eb el t1 t2 t3 t4 t5 t6 j = nI E := by subst hj; rfl
theorem encR_3 {N M E : Nat} {v h p m db dl du dq dw ek eb el : Nat → Int32} {t1 t2 t3 t4 t5 t6 : Int32} {j : Nat} (hj : j = 3) : encT N v h p m M db dl du dq dw E ek eb el t1 t2 t3 t4 t5 t6 j = t1 := by subst hj; rfl
theorem encR_4 {N M E : Nat} {v h p m db dl du dq dw ek eb el : Nat → Int32} {t1 t2 t3 t4 t5 t6 : Int32} {j : Nat} (hj : j = 4) : encT N v h p m M db dl du dq dw E ek eb el t1 t2 t3 t4 t5 t6 j = t2 := by subst hj; rfl
theorem encR_5 {N M E : Nat} {v h p m db dl du dq dw ek eb el : Nat → Int32} {t1 t2 t3 t4 t5 t6 : Int32} {j : Nat} (hj : j = 5) : encT N v h p m M db dl du dq dw E ek eb el t1 t2 t3 t4 t5 t6 j = t3 := by subst hj; rfl
theorem encR_6 {N M E : Nat} {v h p m db dl du dq dw ek eb el : Nat → Int32} {t1 t2 t3 t4 t5 t6 : Int32} {j : Nat} (hj : j = 6) : encT N v h p m M db dl du dq dw E ek eb el t1 t2 t3 t4 t5 t6 j = t4 := by subst hj; rfl
theorem encR_7 {N M E : Nat} {v h p m db dl du dq dw ek eb el : Nat → Int32} {t1 t2 t3 t4 t5 t6 : Int32} {j : Nat} (hj : j = 7) : encT N v h p m M db dl du dq dw E ek eb el t1 t2 t3 t4 t5 t6 j = t5 := by subst hj; rfl
theorem encR_8 {N M E : Nat} {v h p m db dl du dq dw ek eb el : Nat → Int32} {t1 t2 t3 t4 t5 t6 : Int32} {j : Nat} (hj : j = 8) : encT N v h p m M db dl du dq dw E ek eb el t1 t2 t3 t4 t5 t6 j = t6 := by subst hj; rfl
theorem encU_v {N M E : Nat} {v h p m db dl du dq dw ek eb el : Nat → Int32} {t1 t2 t3 t4 t5 t6 : Int32} {j b : Nat} {x : Int32} (hj : j = 9 + 4 * b + 0) (hb : b < 5) : upd (encT N v h p m M db dl du dq dw E ek eb el t1 t2 t3 t4 t5 t6) j x = encT N (upd v b x) h p m M db dl du dq dw E ek eb el t1 t2 t3 t4 t5 t6 := by
  funext i
  by_cases hi : i = j
  · subst hi
    rw [m_updS, encR_v hj hb, m_updS]
  · have e0 : upd (encT N v h p m M db dl du dq dw E ek eb el t1 t2 t3 t4 t5 t6) j x i = encT N v h p m M db dl du dq dw E ek eb el t1 t2 t3 t4 t5 t6 i := if_neg hi
    rw [e0]
    unfold encT
    by_cases h1 : i < 9
    · rw [if_pos h1, if_pos h1]
    · rw [if_neg h1, if_neg h1]
      by_cases h2 : i < 29
      · rw [if_pos h2, if_pos h2]
        have e9 : (i - 9) % 4 = 0 → (i - 9) / 4 ≠ b := fun q r => hi (by omega)
        (repeat' split) <;> first | rfl | exact (if_neg (e9 (by omega))).symm
      · rw [if_neg h2, if_neg h2]
theorem encU_h {N M E : Nat} {v h p m db dl du dq dw ek eb el : Nat → Int32} {t1 t2 t3 t4 t5 t6 : Int32} {j b : Nat} {x : Int32} (hj : j = 9 + 4 * b + 1) (hb : b < 5) : upd (encT N v h p m M db dl du dq dw E ek eb el t1 t2 t3 t4 t5 t6) j x = encT N v (upd h b x) p m M db dl du dq dw E ek eb el t1 t2 t3 t4 t5 t6 := by
  funext i
  by_cases hi : i = j
  · subst hi
    rw [m_updS, encR_h hj hb, m_updS]
  · have e0 : upd (encT N v h p m M db dl du dq dw E ek eb el t1 t2 t3 t4 t5 t6) j x i = encT N v h p m M db dl du dq dw E ek eb el t1 t2 t3 t4 t5 t6 i := if_neg hi
    rw [e0]
    unfold encT
    by_cases h1 : i < 9
    · rw [if_pos h1, if_pos h1]
    · rw [if_neg h1, if_neg h1]
      by_cases h2 : i < 29
      · rw [if_pos h2, if_pos h2]
        have e9 : (i - 9) % 4 = 1 → (i - 9) / 4 ≠ b := fun q r => hi (by omega)
        (repeat' split) <;> first | rfl | exact (if_neg (e9 (by omega))).symm
      · rw [if_neg h2, if_neg h2]
theorem encU_m {N M E : Nat} {v h p m db dl du dq dw ek eb el : Nat → Int32} {t1 t2 t3 t4 t5 t6 : Int32} {j b : Nat} {x : Int32} (hj : j = 9 + 4 * b + 3) (hb : b < 5) : upd (encT N v h p m M db dl du dq dw E ek eb el t1 t2 t3 t4 t5 t6) j x = encT N v h p (upd m b x) M db dl du dq dw E ek eb el t1 t2 t3 t4 t5 t6 := by
  funext i
  by_cases hi : i = j
  · subst hi
    rw [m_updS, encR_m hj hb, m_updS]
  · have e0 : upd (encT N v h p m M db dl du dq dw E ek eb el t1 t2 t3 t4 t5 t6) j x i = encT N v h p m M db dl du dq dw E ek eb el t1 t2 t3 t4 t5 t6 i := if_neg hi
    rw [e0]
    unfold encT
    by_cases h1 : i < 9
    · rw [if_pos h1, if_pos h1]
    · rw [if_neg h1, if_neg h1]
      by_cases h2 : i < 29
      · rw [if_pos h2, if_pos h2]
        have e9 : (i - 9) % 4 = 3 → (i - 9) / 4 ≠ b := fun q r => hi (by omega)
        (repeat' split) <;> first | rfl | exact (if_neg (e9 (by omega))).symm
      · rw [if_neg h2, if_neg h2]
theorem encU_db {N M E : Nat} {v h p m db dl du dq dw ek eb el : Nat → Int32} {t1 t2 t3 t4 t5 t6 : Int32} {j b : Nat} {x : Int32} (hj : j = 29 + 5 * b + 0) (hb : b < 6) : upd (encT N v h p m M db dl du dq dw E ek eb el t1 t2 t3 t4 t5 t6) j x = encT N v h p m M (upd db b x) dl du dq dw E ek eb el t1 t2 t3 t4 t5 t6 := by
  funext i
  by_cases hi : i = j
  · subst hi
    rw [m_updS, encR_db hj hb, m_updS]
  · have e0 : upd (encT N v h p m M db dl du dq dw E ek eb el t1 t2 t3 t4 t5 t6) j x i = encT N v h p m M db dl du dq dw E ek eb el t1 t2 t3 t4 t5 t6 i := if_neg hi
    rw [e0]
    unfold encT
    by_cases h1 : i < 9
    · rw [if_pos h1, if_pos h1]
    · rw [if_neg h1, if_neg h1]
      by_cases h2 : i < 29
      · rw [if_pos h2, if_pos h2]
      · rw [if_neg h2, if_neg h2]
        by_cases h3 : i < 59
        · rw [if_pos h3, if_pos h3]
          have e9 : (i - 29) % 5 = 0 → (i - 29) / 5 ≠ b := fun q r => hi (by omega)
          (repeat' split) <;> first | rfl | exact (if_neg (e9 (by omega))).symm
        · rw [if_neg h3, if_neg h3]
theorem encU_dl {N M E : Nat} {v h p m db dl du dq dw ek eb el : Nat → Int32} {t1 t2 t3 t4 t5 t6 : Int32} {j b : Nat} {x : Int32} (hj : j = 29 + 5 * b + 1) (hb : b < 6) : upd (encT N v h p m M db dl du dq dw E ek eb el t1 t2 t3 t4 t5 t6) j x = encT N v h p m M db (upd dl b x) du dq dw E ek eb el t1 t2 t3 t4 t5 t6 := by
  funext i
  by_cases hi : i = j
  · subst hi
    rw [m_updS, encR_dl hj hb, m_updS]
  · have e0 : upd (encT N v h p m M db dl du dq dw E ek eb el t1 t2 t3 t4 t5 t6) j x i = encT N v h p m M db dl du dq dw E ek eb el t1 t2 t3 t4 t5 t6 i := if_neg hi
    rw [e0]
    unfold encT
    by_cases h1 : i < 9
    · rw [if_pos h1, if_pos h1]
    · rw [if_neg h1, if_neg h1]
      by_cases h2 : i < 29
      · rw [if_pos h2, if_pos h2]
      · rw [if_neg h2, if_neg h2]
        by_cases h3 : i < 59
        · rw [if_pos h3, if_pos h3]
          have e9 : (i - 29) % 5 = 1 → (i - 29) / 5 ≠ b := fun q r => hi (by omega)
          (repeat' split) <;> first | rfl | exact (if_neg (e9 (by omega))).symm
        · rw [if_neg h3, if_neg h3]
theorem encU_du {N M E : Nat} {v h p m db dl du dq dw ek eb el : Nat → Int32} {t1 t2 t3 t4 t5 t6 : Int32} {j b : Nat} {x : Int32} (hj : j = 29 + 5 * b + 2) (hb : b < 6) : upd (encT N v h p m M db dl du dq dw E ek eb el t1 t2 t3 t4 t5 t6) j x = encT N v h p m M db dl (upd du b x) dq dw E ek eb el t1 t2 t3 t4 t5 t6 := by
  funext i
  by_cases hi : i = j
  · subst hi
    rw [m_updS, encR_du hj hb, m_updS]
  · have e0 : upd (encT N v h p m M db dl du dq dw E ek eb el t1 t2 t3 t4 t5 t6) j x i = encT N v h p m M db dl du dq dw E ek eb el t1 t2 t3 t4 t5 t6 i := if_neg hi
    rw [e0]
    unfold encT
    by_cases h1 : i < 9
    · rw [if_pos h1, if_pos h1]
    · rw [if_neg h1, if_neg h1]
      by_cases h2 : i < 29
      · rw [if_pos h2, if_pos h2]
      · rw [if_neg h2, if_neg h2]
        by_cases h3 : i < 59
        · rw [if_pos h3, if_pos h3]
          have e9 : (i - 29) % 5 = 2 → (i - 29) / 5 ≠ b := fun q r => hi (by omega)
          (repeat' split) <;> first | rfl | exact (if_neg (e9 (by omega))).symm
        · rw [if_neg h3, if_neg h3]
theorem encU_dq {N M E : Nat} {v h p m db dl du dq dw ek eb el : Nat → Int32} {t1 t2 t3 t4 t5 t6 : Int32} {j b : Nat} {x : Int32} (hj : j = 29 + 5 * b + 3) (hb : b < 6) : upd (encT N v h p m M db dl du dq dw E ek eb el t1 t2 t3 t4 t5 t6) j x = encT N v h p m M db dl du (upd dq b x) dw E ek eb el t1 t2 t3 t4 t5 t6 := by
  funext i
  by_cases hi : i = j
  · subst hi
    rw [m_updS, encR_dq hj hb, m_updS]
  · have e0 : upd (encT N v h p m M db dl du dq dw E ek eb el t1 t2 t3 t4 t5 t6) j x i = encT N v h p m M db dl du dq dw E ek eb el t1 t2 t3 t4 t5 t6 i := if_neg hi
    rw [e0]
    unfold encT
    by_cases h1 : i < 9
    · rw [if_pos h1, if_pos h1]
    · rw [if_neg h1, if_neg h1]
      by_cases h2 : i < 29
      · rw [if_pos h2, if_pos h2]
      · rw [if_neg h2, if_neg h2]
        by_cases h3 : i < 59
        · rw [if_pos h3, if_pos h3]
          have e9 : (i - 29) % 5 = 3 → (i - 29) / 5 ≠ b := fun q r => hi (by omega)
          (repeat' split) <;> first | rfl | exact (if_neg (e9 (by omega))).symm
        · rw [if_neg h3, if_neg h3]
theorem encU_dw {N M E : Nat} {v h p m db dl du dq dw ek eb el : Nat → Int32} {t1 t2 t3 t4 t5 t6 : Int32} {j b : Nat} {x : Int32} (hj : j = 29 + 5 * b + 4) (hb : b < 6) : upd (encT N v h p m M db dl du dq dw E ek eb el t1 t2 t3 t4 t5 t6) j x = encT N v h p m M db dl du dq (upd dw b x) E ek eb el t1 t2 t3 t4 t5 t6 := by
  funext i
  by_cases hi : i = j
  · subst hi
    rw [m_updS, encR_dw hj hb, m_updS]
  · have e0 : upd (encT N v h p m M db dl du dq dw E ek eb el t1 t2 t3 t4 t5 t6) j x i = encT N v h p m M db dl du dq dw E ek eb el t1 t2 t3 t4 t5 t6 i := if_neg hi
    rw [e0]
    unfold encT
    by_cases h1 : i < 9
    · rw [if_pos h1, if_pos h1]
    · rw [if_neg h1, if_neg h1]
      by_cases h2 : i < 29
      · rw [if_pos h2, if_pos h2]
      · rw [if_neg h2, if_neg h2]
        by_cases h3 : i < 59
        · rw [if_pos h3, if_pos h3]
          have e9 : (i - 29) % 5 = 4 → (i - 29) / 5 ≠ b := fun q r => hi (by omega)
          (repeat' split) <;> first | rfl | exact (if_neg (e9 (by omega))).symm
        · rw [if_neg h3, if_neg h3]
theorem encU_ek {N M E : Nat} {v h p m db dl du dq dw ek eb el : Nat → Int32} {t1 t2 t3 t4 t5 t6 : Int32} {j b : Nat} {x : Int32} (hj : j = 59 + 3 * b + 0) (hb : b < 10) : upd (encT N v h p m M db dl du dq dw E ek eb el t1 t2 t3 t4 t5 t6) j x = encT N v h p m M db dl du dq dw E (upd ek b x) eb el t1 t2 t3 t4 t5 t6 := by
  funext i
  by_cases hi : i = j
  · subst hi
    rw [m_updS, encR_ek hj hb, m_updS]
  · have e0 : upd (encT N v h p m M db dl du dq dw E ek eb el t1 t2 t3 t4 t5 t6) j x i = encT N v h p m M db dl du dq dw E ek eb el t1 t2 t3 t4 t5 t6 i := if_neg hi
    rw [e0]
    unfold encT
    by_cases h1 : i < 9
    · rw [if_pos h1, if_pos h1]
    · rw [if_neg h1, if_neg h1]
      by_cases h2 : i < 29
      · rw [if_pos h2, if_pos h2]
      · rw [if_neg h2, if_neg h2]
        by_cases h3 : i < 59
        · rw [if_pos h3, if_pos h3]
        · rw [if_neg h3, if_neg h3]
          have e9 : (i - 59) % 3 = 0 → (i - 59) / 3 ≠ b := fun q r => hi (by omega)
          (repeat' split) <;> first | rfl | exact (if_neg (e9 (by omega))).symm
theorem encU_eb {N M E : Nat} {v h p m db dl du dq dw ek eb el : Nat → Int32} {t1 t2 t3 t4 t5 t6 : Int32} {j b : Nat} {x : Int32} (hj : j = 59 + 3 * b + 1) (hb : b < 10) : upd (encT N v h p m M db dl du dq dw E ek eb el t1 t2 t3 t4 t5 t6) j x = encT N v h p m M db dl du dq dw E ek (upd eb b x) el t1 t2 t3 t4 t5 t6 := by
  funext i
  by_cases hi : i = j
  · subst hi
    rw [m_updS, encR_eb hj hb, m_updS]
  · have e0 : upd (encT N v h p m M db dl du dq dw E ek eb el t1 t2 t3 t4 t5 t6) j x i = encT N v h p m M db dl du dq dw E ek eb el t1 t2 t3 t4 t5 t6 i := if_neg hi
    rw [e0]
    unfold encT
    by_cases h1 : i < 9
    · rw [if_pos h1, if_pos h1]
    · rw [if_neg h1, if_neg h1]
      by_cases h2 : i < 29
      · rw [if_pos h2, if_pos h2]
      · rw [if_neg h2, if_neg h2]
        by_cases h3 : i < 59
        · rw [if_pos h3, if_pos h3]
        · rw [if_neg h3, if_neg h3]
          have e9 : (i - 59) % 3 = 1 → (i - 59) / 3 ≠ b := fun q r => hi (by omega)
          (repeat' split) <;> first | rfl | exact (if_neg (e9 (by omega))).symm
theorem encU_3 {N M E : Nat} {v h p m db dl du dq dw ek eb el : Nat → Int32} {t1 t2 t3 t4 t5 t6 : Int32} {j : Nat} {x : Int32} (hj : j = 3) : upd (encT N v h p m M db dl du dq dw E ek eb el t1 t2 t3 t4 t5 t6) j x = encT N v h p m M db dl du dq dw E ek eb el x t2 t3 t4 t5 t6 := by
  funext i
  by_cases hi : i = j
  · subst hi
    rw [m_updS, encR_3 hj]
  · have e0 : upd (encT N v h p m M db dl du dq dw E ek eb el t1 t2 t3 t4 t5 t6) j x i = encT N v h p m M db dl du dq dw E ek eb el t1 t2 t3 t4 t5 t6 i := if_neg hi
    rw [e0]
    subst hj
    unfold encT
    by_cases h1 : i < 9
    · rw [if_pos h1, if_pos h1]
      match i, h1 with
      | 0, _ => rfl
      | 1, _ => rfl
      | 2, _ => rfl
      | 3, _ => first | rfl | exact absurd rfl hi
      | 4, _ => first | rfl | exact absurd rfl hi
      | 5, _ => first | rfl | exact absurd rfl hi
      | 6, _ => first | rfl | exact absurd rfl hi
      | 7, _ => first | rfl | exact absurd rfl hi
      | 8, _ => first | rfl | exact absurd rfl hi
    · rw [if_neg h1, if_neg h1]
theorem encU_4 {N M E : Nat} {v h p m db dl du dq dw ek eb el : Nat → Int32} {t1 t2 t3 t4 t5 t6 : Int32} {j : Nat} {x : Int32} (hj : j = 4) : upd (encT N v h p m M db dl du dq dw E ek eb el t1 t2 t3 t4 t5 t6) j x = encT N v h p m M db dl du dq dw E ek eb el t1 x t3 t4 t5 t6 := by
  funext i
  by_cases hi : i = j
  · subst hi
    rw [m_updS, encR_4 hj]
  · have e0 : upd (encT N v h p m M db dl du dq dw E ek eb el t1 t2 t3 t4 t5 t6) j x i = encT N v h p m M db dl du dq dw E ek eb el t1 t2 t3 t4 t5 t6 i := if_neg hi
    rw [e0]
    subst hj
    unfold encT
    by_cases h1 : i < 9
    · rw [if_pos h1, if_pos h1]
      match i, h1 with
      | 0, _ => rfl
      | 1, _ => rfl
      | 2, _ => rfl
      | 3, _ => first | rfl | exact absurd rfl hi
      | 4, _ => first | rfl | exact absurd rfl hi
      | 5, _ => first | rfl | exact absurd rfl hi
      | 6, _ => first | rfl | exact absurd rfl hi
      | 7, _ => first | rfl | exact absurd rfl hi
      | 8, _ => first | rfl | exact absurd rfl hi
    · rw [if_neg h1, if_neg h1]
theorem encU_5 {N M E : Nat} {v h p m db dl du dq dw ek eb el : Nat → Int32} {t1 t2 t3 t4 t5 t6 : Int32} {j : Nat} {x : Int32} (hj : j = 5) : upd (encT N v h p m M db dl du dq dw E ek eb el t1 t2 t3 t4 t5 t6) j x = encT N v h p m M db dl du dq dw E ek eb el t1 t2 x t4 t5 t6 := by
  funext i
  by_cases hi : i = j
  · subst hi
    rw [m_updS, encR_5 hj]
  · have e0 : upd (encT N v h p m M db dl du dq dw E ek eb el t1 t2 t3 t4 t5 t6) j x i = encT N v h p m M db dl du dq dw E ek eb el t1 t2 t3 t4 t5 t6 i := if_neg hi
    rw [e0]
    subst hj
    unfold encT
    by_cases h1 : i < 9
    · rw [if_pos h1, if_pos h1]
      match i, h1 with
      | 0, _ => rfl
      | 1, _ => rfl
      | 2, _ => rfl
      | 3, _ => first | rfl | exact absurd rfl hi
      | 4, _ => first | rfl | exact absurd rfl hi
      | 5, _ => first | rfl | exact absurd rfl hi
      | 6, _ => first | rfl | exact absurd rfl hi
      | 7, _ => first | rfl | exact absurd rfl hi
      | 8, _ => first | rfl | exact absurd rfl hi
    · rw [if_neg h1, if_neg h1]
theorem encU_6 {N M E : Nat} {v h p m db dl du dq dw ek eb el : Nat → Int32} {t1 t2 t3 t4 t5 t6 : Int32} {j : Nat} {x : Int32} (hj : j = 6) : upd (encT N v h p m M db dl du dq dw E ek eb el t1 t2 t3 t4 t5 t6) j x = encT N v h p m M db dl du dq dw E ek eb el t1 t2 t3 x t5 t6 := by
  funext i
  by_cases hi : i = j
  · subst hi
    rw [m_updS, encR_6 hj]
  · have e0 : upd (encT N v h p m M db dl du dq dw E ek eb el t1 t2 t3 t4 t5 t6) j x i = encT N v h p m M db dl du dq dw E ek eb el t1 t2 t3 t4 t5 t6 i := if_neg hi
    rw [e0]
    subst hj
    unfold encT
    by_cases h1 : i < 9
    · rw [if_pos h1, if_pos h1]
      match i, h1 with
      | 0, _ => rfl
      | 1, _ => rfl
      | 2, _ => rfl
      | 3, _ => first | rfl | exact absurd rfl hi
      | 4, _ => first | rfl | exact absurd rfl hi
      | 5, _ => first | rfl | exact absurd rfl hi
      | 6, _ => first | rfl | exact absurd rfl hi
      | 7, _ => first | rfl | exact absurd rfl hi
      | 8, _ => first | rfl | exact absurd rfl hi
    · rw [if_neg h1, if_neg h1]
theorem encU_7 {N M E : Nat} {v h p m db dl du dq dw ek eb el : Nat → Int32} {t1 t2 t3 t4 t5 t6 : Int32} {j : Nat} {x : Int32} (hj : j = 7) : upd (encT N v h p m M db dl du dq dw E ek eb el t1 t2 t3 t4 t5 t6) j x = encT N v h p m M db dl du dq dw E ek eb el t1 t2 t3 t4 x t6 := by
  funext i
  by_cases hi : i = j
  · subst hi
    rw [m_updS, encR_7 hj]
  · have e0 : upd (encT N v h p m M db dl du dq dw E ek eb el t1 t2 t3 t4 t5 t6) j x i = encT N v h p m M db dl du dq dw E ek eb el t1 t2 t3 t4 t5 t6 i := if_neg hi
    rw [e0]
    subst hj
    unfold encT
    by_cases h1 : i < 9
    · rw [if_pos h1, if_pos h1]
      match i, h1 with
      | 0, _ => rfl
      | 1, _ => rfl
      | 2, _ => rfl
      | 3, _ => first | rfl | exact absurd rfl hi
      | 4, _ => first | rfl | exact absurd rfl hi
      | 5, _ => first | rfl | exact absurd rfl hi
      | 6, _ => first | rfl | exact absurd rfl hi
      | 7, _ => first | rfl | exact absurd rfl hi
      | 8, _ => first | rfl | exact absurd rfl hi
    · rw [if_neg h1, if_neg h1]
theorem encU_8 {N M E : Nat} {v h p m db dl du dq dw ek eb el : Nat → Int32} {t1 t2 t3 t4 t5 t6 : Int32} {j : Nat} {x : Int32} (hj : j = 8) : upd (encT N v h p m M db dl du dq dw E ek eb el t1 t2 t3 t4 t5 t6) j x = encT N v h p m M db dl du dq dw E ek eb el t1 t2 t3 t4 t5 x := by
  funext i
  by_cases hi : i = j
  · subst hi
    rw [m_updS, encR_8 hj]
  · have e0 : upd (encT N v h p m M db dl du dq dw E ek eb el t1 t2 t3 t4 t5 t6) j x i = encT N v h p m M db dl du dq dw E ek eb el t1 t2 t3 t4 t5 t6 i := if_neg hi
    rw [e0]
    subst hj
    unfold encT
    by_cases h1 : i < 9
    · rw [if_pos h1, if_pos h1]
      match i, h1 with
      | 0, _ => rfl
      | 1, _ => rfl
      | 2, _ => rfl
      | 3, _ => first | rfl | exact absurd rfl hi
      | 4, _ => first | rfl | exact absurd rfl hi
      | 5, _ => first | rfl | exact absurd rfl hi
      | 6, _ => first | rfl | exact absurd rfl hi
      | 7, _ => first | rfl | exact absurd rfl hi
      | 8, _ => first | rfl | exact absurd rfl hi
    · rw [if_neg h1, if_neg h1]
theorem encU_1 {N M E : Nat} {v h p m db dl du dq dw ek eb el : Nat → Int32} {t1 t2 t3 t4 t5 t6 : Int32} {j M1 : Nat} {x : Int32} (hj : j = 1) (hx : x = nI M1) : upd (encT N v h p m M db dl du dq dw E ek eb el t1 t2 t3 t4 t5 t6) j x = encT N v h p m M1 db dl du dq dw E ek eb el t1 t2 t3 t4 t5 t6 := by
  funext i
  by_cases hi : i = j
  · subst hi
    rw [m_updS, encR_1 hj, hx]
  · have e0 : upd (encT N v h p m M db dl du dq dw E ek eb el t1 t2 t3 t4 t5 t6) j x i = encT N v h p m M db dl du dq dw E ek eb el t1 t2 t3 t4 t5 t6 i := if_neg hi
    rw [e0]
    subst hj
    unfold encT
    by_cases h1 : i < 9
    · rw [if_pos h1, if_pos h1]
      match i, h1 with
      | 0, _ => rfl
      | 1, _ => first | rfl | exact absurd rfl hi
      | 2, _ => first | rfl | exact absurd rfl hi
      | 3, _ => rfl
      | 4, _ => rfl
      | 5, _ => rfl
      | 6, _ => rfl
      | 7, _ => rfl
      | 8, _ => rfl
    · rw [if_neg h1, if_neg h1]
theorem encU_2 {N M E : Nat} {v h p m db dl du dq dw ek eb el : Nat → Int32} {t1 t2 t3 t4 t5 t6 : Int32} {j E1 : Nat} {x : Int32} (hj : j = 2) (hx : x = nI E1) : upd (encT N v h p m M db dl du dq dw E ek eb el t1 t2 t3 t4 t5 t6) j x = encT N v h p m M db dl du dq dw E1 ek eb el t1 t2 t3 t4 t5 t6 := by
  funext i
  by_cases hi : i = j
  · subst hi
    rw [m_updS, encR_2 hj, hx]
  · have e0 : upd (encT N v h p m M db dl du dq dw E ek eb el t1 t2 t3 t4 t5 t6) j x i = encT N v h p m M db dl du dq dw E ek eb el t1 t2 t3 t4 t5 t6 i := if_neg hi
    rw [e0]
    subst hj
    unfold encT
    by_cases h1 : i < 9
    · rw [if_pos h1, if_pos h1]
      match i, h1 with
      | 0, _ => rfl
      | 1, _ => first | rfl | exact absurd rfl hi
      | 2, _ => first | rfl | exact absurd rfl hi
      | 3, _ => rfl
      | 4, _ => rfl
      | 5, _ => rfl
      | 6, _ => rfl
      | 7, _ => rfl
      | 8, _ => rfl
    · rw [if_neg h1, if_neg h1]
theorem encU_o {N M E : Nat} {v h p m db dl du dq dw ek eb el : Nat → Int32} {t1 t2 t3 t4 t5 t6 : Int32} {j b : Nat} {x y : Int32} (hj : j = 9 + 4 * b + 2) (hb : b < 5) (hN : b < N) (hx : x = if y = 0 then 1 else 0) : upd (encT N v h p m M db dl du dq dw E ek eb el t1 t2 t3 t4 t5 t6) j x = encT N v h (upd p b y) m M db dl du dq dw E ek eb el t1 t2 t3 t4 t5 t6 := by
  funext i
  by_cases hi : i = j
  · subst hi
    rw [m_updS, encR_o hj hb, m_updS, hx]
    by_cases q : y = 0
    · rw [if_pos q, if_pos ⟨q, hN⟩]
    · rw [if_neg q, if_neg (fun z => q z.1)]
  · have e0 : upd (encT N v h p m M db dl du dq dw E ek eb el t1 t2 t3 t4 t5 t6) j x i = encT N v h p m M db dl du dq dw E ek eb el t1 t2 t3 t4 t5 t6 i := if_neg hi
    rw [e0]
    unfold encT
    by_cases h1 : i < 9
    · rw [if_pos h1, if_pos h1]
    · rw [if_neg h1, if_neg h1]
      by_cases h2 : i < 29
      · rw [if_pos h2, if_pos h2]
        have e9 : (i - 9) % 4 = 2 → (i - 9) / 4 ≠ b := fun q r => hi (by omega)
        (repeat' split) <;> first | rfl | (next z1 z2 z3 z4 z5 => exact absurd (by rw [if_neg (e9 (by omega))] at z5; exact z5) z4) | skip
        all_goals (first | rfl | (exfalso; have e8 := e9 (by omega); simp_all [upd]))
      · rw [if_neg h2, if_neg h2]
theorem encU_0 {N M E : Nat} {v h p m db dl du dq dw ek eb el : Nat → Int32} {t1 t2 t3 t4 t5 t6 : Int32} {j : Nat} {x : Int32} (hj : j = 0) (hx : x = nI (N + 1)) : upd (encT N v h p m M db dl du dq dw E ek eb el t1 t2 t3 t4 t5 t6) j x = encT (N + 1) v h (upd p N 1) m M db dl du dq dw E ek eb el t1 t2 t3 t4 t5 t6 := by
  funext i
  by_cases hi : i = j
  · subst hi
    rw [m_updS, encR_0 hj, hx]
  · have e0 : upd (encT N v h p m M db dl du dq dw E ek eb el t1 t2 t3 t4 t5 t6) j x i = encT N v h p m M db dl du dq dw E ek eb el t1 t2 t3 t4 t5 t6 i := if_neg hi
    rw [e0]
    subst hj
    unfold encT
    by_cases h1 : i < 9
    · rw [if_pos h1, if_pos h1]
      match i, h1 with
      | 0, _ => exact absurd rfl hi
      | 1, _ => rfl
      | 2, _ => rfl
      | 3, _ => rfl
      | 4, _ => rfl
      | 5, _ => rfl
      | 6, _ => rfl
      | 7, _ => rfl
      | 8, _ => rfl
    · rw [if_neg h1, if_neg h1]
      have e9 : (p ((i - 9) / 4) = 0 ∧ (i - 9) / 4 < N) ↔ (upd p N 1 ((i - 9) / 4) = 0 ∧ (i - 9) / 4 < N + 1) := by
        unfold upd
        by_cases q : (i - 9) / 4 = N
        · rw [if_pos q]
          exact ⟨fun z => absurd z.2 (by omega), fun z => absurd z.1 (by decide)⟩
        · rw [if_neg q]
          exact ⟨fun z => ⟨z.1, by omega⟩, fun z => ⟨z.1, by omega⟩⟩
      simp only [e9]
theorem inR_inI (b : Int32) {N : Nat} (hN : N < 1000) : inR b 0 (nI N - 1) = inI b (nI N) := by
  have e : (nI N - 1).toInt = (N : Int) - 1 := by
    rw [show (1 : Int32) = nI 1 from rfl, pk_sub_toInt (by omega) (by omega)]
    rfl
  have e2 : (nI N).toInt = (N : Int) := nI_toInt (by omega)
  have h : (nI N - 1 < b) ↔ (nI N ≤ b) := by
    rw [Int32.lt_iff_toInt_lt, Int32.le_iff_toInt_le, e, e2]
    omega
  unfold inR inI
  simp only [h]
/-- litres and heat in their ranges -/
def Bd (v h : Nat → Int32) : Prop := ∀ j, j < 5 → (0 ≤ (v j).toInt ∧ (v j).toInt ≤ 100) ∧ (0 ≤ (h j).toInt ∧ (h j).toInt ≤ 7000)
theorem plz_eq (v h db dl dh : Nat → Int32) (k : Nat) : plz v h db dl dh k = (wet v (bx (db k)) && inR (rdeg (h (bx (db k))) (v (bx (db k)))) (dl k) (dh k)) := by simp [plz, inR, Bool.and_assoc]
theorem upd_self (f : Nat → Int32) (k : Nat) : upd f k (f k) = f := by
  funext j
  unfold upd
  split
  · next e => rw [e]
  · rfl
theorem obsW_01 {p : Nat → Bool} {dw : Nat → Int32} (h : ∀ j, j < 6 → dw j = 0 ∨ dw j = 1) : ∀ k j, j < 6 → obsW p dw k j = 0 ∨ obsW p dw k j = 1
  | 0, j, hj => h j hj
  | k + 1, j, hj => by
    simp only [obsW, upd]
    split
    · split
      · exact Or.inr rfl
      · exact Or.inl rfl
    · exact obsW_01 h k j hj
/-- the differences of products, within the ranges -/
theorem Bd.mul {v h : Nat → Int32} (H : Bd v h) {a b : Nat} (ha : a < 5) (hb : b < 5) : (h a * v b).toInt = (h a).toInt * (v b).toInt ∧ 0 ≤ (h a).toInt * (v b).toInt ∧ (h a).toInt * (v b).toInt ≤ 700000 := by
  obtain ⟨-, h1, h2⟩ := H a ha
  obtain ⟨⟨h3, h4⟩, -⟩ := H b hb
  have p0 : 0 ≤ (h a).toInt * (v b).toInt := Int.mul_nonneg h1 h3
  have p1 : (h a).toInt * (v b).toInt ≤ 7000 * 100 := Int.mul_le_mul h2 h4 h3 (by decide)
  refine ⟨?_, p0, p1⟩
  rw [Int32.toInt_mul]
  exact Int.bmod_eq_of_le (by omega) (by omega)
theorem Bd.diff {v h : Nat → Int32} (H : Bd v h) {a b : Nat} (ha : a < 5) (hb : b < 5) : (h a * v b - h b * v a).toInt = (h a).toInt * (v b).toInt - (h b).toInt * (v a).toInt := by
  obtain ⟨e1, l1, u1⟩ := H.mul ha hb
  obtain ⟨e2, l2, u2⟩ := H.mul hb ha
  rw [Int32.toInt_sub, e1, e2]
  exact Int.bmod_eq_of_le (by omega) (by omega)
theorem warm1 {v h : Nat → Int32} (H : Bd v h) {a b : Nat} (ha : a < 5) (hb : b < 5) : (¬ 1 * (h a * v b - h b * v a) ≤ 0) ↔ hotter v h a b = true := by
  obtain ⟨e1, l1, u1⟩ := H.mul ha hb
  obtain ⟨e2, l2, u2⟩ := H.mul hb ha
  have e3 := H.diff ha hb
  unfold hotter
  rw [decide_eq_true_iff, Int32.one_mul, Int32.le_iff_toInt_le, Int32.le_iff_toInt_le, e3, e1, e2, Int32.toInt_zero]
  omega
theorem warm2 {v h : Nat → Int32} (H : Bd v h) {a b : Nat} (ha : a < 5) (hb : b < 5) : (¬ (-1) * (h a * v b - h b * v a) ≤ 0) ↔ hotter v h b a = true := by
  obtain ⟨e1, l1, u1⟩ := H.mul ha hb
  obtain ⟨e2, l2, u2⟩ := H.mul hb ha
  have e3 := H.diff ha hb
  have e4 : ((-1) * (h a * v b - h b * v a)).toInt = -((h a).toInt * (v b).toInt - (h b).toInt * (v a).toInt) := by
    rw [Int32.toInt_mul, e3, show (-1 : Int32).toInt = -1 from by decide]
    rw [Int.bmod_eq_of_le (by omega) (by omega)]
    omega
  unfold hotter
  rw [decide_eq_true_iff, Int32.le_iff_toInt_le, Int32.le_iff_toInt_le, e4, e1, e2, Int32.toInt_zero]
  omega
theorem cntM_add {me : Nat → Int32} {k : Nat} (h : me k = 0 ∨ me k = 1) : cntM me (k + 1) = cntM me k + me k := by
  rcases h with h | h <;> simp [cntM, h]
def litq (q : Int32) : Int32 := if q = -1 then 0 else q
theorem encR_hi {N M E : Nat} {v h p m db dl du dq dw ek eb el : Nat → Int32} {t1 t2 t3 t4 t5 t6 : Int32} {j : Nat} (h9 : 59 ≤ j) : encT N v h p m M db dl du dq dw E ek eb el t1 t2 t3 t4 t5 t6 j = if (j - 59) % 3 = 0 then ek ((j - 59) / 3) else if (j - 59) % 3 = 1 then eb ((j - 59) / 3) else if el ((j - 59) / 3) = -1 then 0 else el ((j - 59) / 3) := by
  unfold encT
  rw [if_neg (show ¬ j < 9 by omega), if_neg (show ¬ j < 29 by omega), if_neg (show ¬ j < 59 by omega)]
/-- the event that happens, over the whole row -/
theorem enc_hap {N M E : Nat} {v h p m db dl du dq dw ek eb el : Nat → Int32} {t1 t2 t3 t4 t5 t6 : Int32} {c x q y : Int32} (hy : y = nI (evc E)) (j : Nat) (hj : j < 89) :
    upd (upd (upd (upd (va_cpy (encT N v h p m M db dl du dq dw E ek eb el t1 t2 t3 t4 t5 t6) (encT N v h p m M db dl du dq dw E ek eb el t1 t2 t3 t4 t5 t6) 59 62 27) 59 c) 60 x) 61 (litq q)) 2 y j = encT N v h p m M db dl du dq dw (evc E) (psh ek c) (psh eb x) (psh el q) t1 t2 t3 t4 t5 t6 j := by
  unfold upd va_cpy
  by_cases h2 : j = 2
  · subst h2; rw [if_pos rfl, hy]; rfl
  rw [if_neg h2]
  by_cases h61 : j = 61
  · subst h61; rw [if_pos rfl]; rfl
  rw [if_neg h61]
  by_cases h60 : j = 60
  · subst h60; rw [if_pos rfl]; rfl
  rw [if_neg h60]
  by_cases h59 : j = 59
  · subst h59; rw [if_pos rfl]; rfl
  rw [if_neg h59]
  by_cases h62 : 62 ≤ j
  · rw [if_pos ⟨h62, by omega⟩]
    have e1 : (59 + (j - 62) - 59) / 3 = (j - 59) / 3 - 1 := by omega
    have e2 : (59 + (j - 62) - 59) % 3 = (j - 59) % 3 := by omega
    have e3 : (j - 59) / 3 ≠ 0 := by omega
    rw [encR_hi (show 59 ≤ 59 + (j - 62) by omega), encR_hi (show 59 ≤ j by omega), e1, e2]
    unfold psh
    rw [if_neg e3, if_neg e3, if_neg e3]
  · rw [if_neg (fun z => h62 z.1)]
    unfold encT
    by_cases k1 : j < 9
    · rw [if_pos k1, if_pos k1]
      match j, k1 with
      | 0, _ => rfl
      | 1, _ => rfl
      | 2, _ => exact absurd rfl h2
      | 3, _ => rfl
      | 4, _ => rfl
      | 5, _ => rfl
      | 6, _ => rfl
      | 7, _ => rfl
      | 8, _ => rfl
    · rw [if_neg k1, if_neg k1]
      by_cases k2 : j < 29
      · rw [if_pos k2, if_pos k2]
      · rw [if_neg k2, if_neg k2]
        have k3 : j < 59 := by omega
        rw [if_pos k3, if_pos k3]
theorem encU_oN {N M E : Nat} {v h p m db dl du dq dw ek eb el : Nat → Int32} {t1 t2 t3 t4 t5 t6 : Int32} {j b : Nat} (hj : j = 9 + 4 * b + 2) (hb : b < 5) (hN : ¬ b < N) : upd (encT N v h p m M db dl du dq dw E ek eb el t1 t2 t3 t4 t5 t6) j 0 = encT N v h p m M db dl du dq dw E ek eb el t1 t2 t3 t4 t5 t6 := by
  have e : encT N v h p m M db dl du dq dw E ek eb el t1 t2 t3 t4 t5 t6 j = 0 := by rw [encR_o hj hb, if_neg (fun z => hN z.2)]
  have e2 := upd_self (encT N v h p m M db dl du dq dw E ek eb el t1 t2 t3 t4 t5 t6) j
  rw [e] at e2
  exact e2
/-- the reference's row of a State -/
def encS (σ : St) : Nat → Int32 := encT (nB σ) (vB σ) (hB σ) (pB σ) (mB σ) (nD σ) (bD σ) (lD σ) (uD σ) (qD σ) (wD σ) (nE σ) (kE σ) (bE σ) (lE σ) (tT σ) (dT σ) (aT σ) (rT σ) (hT σ) (xT σ)
theorem encS_mk (N M E : Nat) (v h p m b l u q w ek eb el : Nat → Int32) (t1 t2 t3 t4 t5 t6 : Int32) : encS ((N, v, h, p, m), (M, b, l, u, q, w), (E, ek, eb, el), (t1, t2, t3, t4, t5, t6)) = encT N v h p m M b l u q w E ek eb el t1 t2 t3 t4 t5 t6 := rfl
/-- which of its own exceptions the reference tells, by the class's fault -/
def mcT (F : Int32) : Int32 := if F = 5 then 3 else F
def mcP (F : Int32) : Int32 := if F = 5 then 4 else if F = 4 then 3 else F
def mcJ (F : Int32) : Int32 := if F = 5 then 3 else if F = 3 then 2 else F
def mcL (F : Int32) : Int32 := if F = 3 then 2 else F
theorem inR_i {x lo hi : Int32} (h1 : ¬ x < lo) (h2 : ¬ hi < x) : inR x lo hi = true := by
  unfold inR
  rw [decide_eq_true h1, decide_eq_true h2]
  rfl
theorem dukF_m {N M : Nat} {b t q : Int32} : dukF N M b t q = if inI b (nI N) = true then (if inR t 0 99 = true then (if inR q t 99 = true then (if M < 6 then 0 else 3) else 2) else 2) else 1 := by
  unfold dukF
  by_cases h0 : inI b (nI N) = true
  · rw [if_pos h0, if_pos h0]
    by_cases h1 : t < 0
    · rw [if_pos h1, if_neg (by simp [inR, h1])]
    · rw [if_neg h1]
      by_cases h2 : 99 < q
      · rw [if_pos h2]
        by_cases h3 : inR t 0 99 = true
        · rw [if_pos h3, if_neg (by simp [inR, h2])]
        · rw [if_neg h3]
      · rw [if_neg h2]
        by_cases h3 : q < t
        · rw [if_pos h3]
          by_cases h4 : inR t 0 99 = true
          · rw [if_pos h4, if_neg (by simp [inR, h3])]
          · rw [if_neg h4]
        · have h4 : ¬ 99 < t := by
            rw [Int32.lt_iff_toInt_lt] at *
            omega
          rw [if_neg h3, if_pos (inR_i h1 h4), if_pos (inR_i h3 h2)]
  · rw [if_neg h0, if_neg h0]
def kInc (K : Nat) : Nat := if K = 8 then 8 else K + 1
def pastP (K : Nat) (fP fB : Nat → Int32) : Nat → Int32 := if K = 8 then va_cpy fB (va_cpy fP fP 89 0 623) 0 (89 * 7) 89 else va_cpy fB fP 0 (89 * K) 89
theorem cpy_all {f g : Nat → Int32} {n j : Nat} (h : j < n) : va_cpy f g 0 0 n j = f j := by
  unfold va_cpy
  rw [if_pos ⟨Nat.zero_le _, by omega⟩]
  simp
theorem litq_ne {q : Int32} (h : ¬ q = -1) : litq q = q := if_neg h
theorem m01_upd {me : Nat → Int32} {k : Nat} {x : Int32} (h : ∀ j, j < 5 → me j = 0 ∨ me j = 1) (hx : x = 0 ∨ x = 1) : ∀ j, j < 5 → upd me k x j = 0 ∨ upd me k x j = 1 := by
  intro j hj
  unfold upd
  split
  · exact hx
  · exact h j hj
