/-! the reference's row of 89 numbers, out of the parts of a State -/
def encT (N : Nat) (v h p m : Nat → Int32) (M : Nat) (db dl du dq dw : Nat → Int32) (E : Nat) (ek eb el : Nat → Int32) (t1 t2 t3 t4 t5 t6 : Int32) : Nat → Int32 := fun j =>
  if j < 9 then (match j with
    | 0 => nI N | 1 => nI M | 2 => nI E | 3 => t1 | 4 => t2 | 5 => t3 | 6 => t4 | 7 => t5 | _ => t6)
  else if j < 29 then (if (j - 9) % 4 = 0 then v ((j - 9) / 4) else if (j - 9) % 4 = 1 then h ((j - 9) / 4) else if (j - 9) % 4 = 2 then (if p ((j - 9) / 4) = 0 ∧ ((j - 9) / 4) < N then 1 else 0) else m ((j - 9) / 4))
  else if j < 59 then (if (j - 29) % 5 = 0 then db ((j - 29) / 5) else if (j - 29) % 5 = 1 then dl ((j - 29) / 5) else if (j - 29) % 5 = 2 then du ((j - 29) / 5) else if (j - 29) % 5 = 3 then dq ((j - 29) / 5) else dw ((j - 29) / 5))
  else (if (j - 59) % 3 = 0 then ek ((j - 59) / 3) else if (j - 59) % 3 = 1 then eb ((j - 59) / 3) else (if el ((j - 59) / 3) = -1 then 0 else el ((j - 59) / 3)))

theorem encR_v {N M E : Nat} {v h p m db dl du dq dw ek eb el : Nat → Int32} {t1 t2 t3 t4 t5 t6 : Int32} {j b : Nat} (hj : j = 9 + 4 * b + 0) (hb : b < 5) : encT N v h p m M db dl du dq dw E ek eb el t1 t2 t3 t4 t5 t6 j = v b := by
  have e1 : (j - 9) % 4 = 0 := by omega
  have e2 : (j - 9) / 4 = b := by omega
  unfold encT
  rw [if_neg (by omega), if_pos (by omega)]
  simp only [e1, e2]
  rfl
theorem encR_h {N M E : Nat} {v h p m db dl du dq dw ek eb el : Nat → Int32} {t1 t2 t3 t4 t5 t6 : Int32} {j b : Nat} (hj : j = 9 + 4 * b + 1) (hb : b < 5) : encT N v h p m M db dl du dq dw E ek eb el t1 t2 t3 t4 t5 t6 j = h b := by
  have e1 : (j - 9) % 4 = 1 := by omega
  have e2 : (j - 9) / 4 = b := by omega
  unfold encT
  rw [if_neg (by omega), if_pos (by omega)]
  simp only [e1, e2]
  rfl
theorem encR_o {N M E : Nat} {v h p m db dl du dq dw ek eb el : Nat → Int32} {t1 t2 t3 t4 t5 t6 : Int32} {j b : Nat} (hj : j = 9 + 4 * b + 2) (hb : b < 5) : encT N v h p m M db dl du dq dw E ek eb el t1 t2 t3 t4 t5 t6 j = (if p b = 0 ∧ b < N then 1 else 0) := by
  have e1 : (j - 9) % 4 = 2 := by omega
  have e2 : (j - 9) / 4 = b := by omega
  unfold encT
  rw [if_neg (by omega), if_pos (by omega)]
  simp only [e1, e2]
  rfl
theorem encR_m {N M E : Nat} {v h p m db dl du dq dw ek eb el : Nat → Int32} {t1 t2 t3 t4 t5 t6 : Int32} {j b : Nat} (hj : j = 9 + 4 * b + 3) (hb : b < 5) : encT N v h p m M db dl du dq dw E ek eb el t1 t2 t3 t4 t5 t6 j = m b := by
  have e1 : (j - 9) % 4 = 3 := by omega
  have e2 : (j - 9) / 4 = b := by omega
  unfold encT
  rw [if_neg (by omega), if_pos (by omega)]
  simp only [e1, e2]
  rfl
theorem encR_db {N M E : Nat} {v h p m db dl du dq dw ek eb el : Nat → Int32} {t1 t2 t3 t4 t5 t6 : Int32} {j b : Nat} (hj : j = 29 + 5 * b + 0) (hb : b < 6) : encT N v h p m M db dl du dq dw E ek eb el t1 t2 t3 t4 t5 t6 j = db b := by
  have e1 : (j - 29) % 5 = 0 := by omega
  have e2 : (j - 29) / 5 = b := by omega
  unfold encT
  rw [if_neg (by omega), if_neg (by omega), if_pos (by omega)]
  simp only [e1, e2]
  rfl
theorem encR_dl {N M E : Nat} {v h p m db dl du dq dw ek eb el : Nat → Int32} {t1 t2 t3 t4 t5 t6 : Int32} {j b : Nat} (hj : j = 29 + 5 * b + 1) (hb : b < 6) : encT N v h p m M db dl du dq dw E ek eb el t1 t2 t3 t4 t5 t6 j = dl b := by
  have e1 : (j - 29) % 5 = 1 := by omega
  have e2 : (j - 29) / 5 = b := by omega
  unfold encT
  rw [if_neg (by omega), if_neg (by omega), if_pos (by omega)]
  simp only [e1, e2]
  rfl
theorem encR_du {N M E : Nat} {v h p m db dl du dq dw ek eb el : Nat → Int32} {t1 t2 t3 t4 t5 t6 : Int32} {j b : Nat} (hj : j = 29 + 5 * b + 2) (hb : b < 6) : encT N v h p m M db dl du dq dw E ek eb el t1 t2 t3 t4 t5 t6 j = du b := by
  have e1 : (j - 29) % 5 = 2 := by omega
  have e2 : (j - 29) / 5 = b := by omega
  unfold encT
  rw [if_neg (by omega), if_neg (by omega), if_pos (by omega)]
  simp only [e1, e2]
  rfl
theorem encR_dq {N M E : Nat} {v h p m db dl du dq dw ek eb el : Nat → Int32} {t1 t2 t3 t4 t5 t6 : Int32} {j b : Nat} (hj : j = 29 + 5 * b + 3) (hb : b < 6) : encT N v h p m M db dl du dq dw E ek eb el t1 t2 t3 t4 t5 t6 j = dq b := by
  have e1 : (j - 29) % 5 = 3 := by omega
  have e2 : (j - 29) / 5 = b := by omega
  unfold encT
  rw [if_neg (by omega), if_neg (by omega), if_pos (by omega)]
  simp only [e1, e2]
  rfl
theorem encR_dw {N M E : Nat} {v h p m db dl du dq dw ek eb el : Nat → Int32} {t1 t2 t3 t4 t5 t6 : Int32} {j b : Nat} (hj : j = 29 + 5 * b + 4) (hb : b < 6) : encT N v h p m M db dl du dq dw E ek eb el t1 t2 t3 t4 t5 t6 j = dw b := by
  have e1 : (j - 29) % 5 = 4 := by omega
  have e2 : (j - 29) / 5 = b := by omega
  unfold encT
  rw [if_neg (by omega), if_neg (by omega), if_pos (by omega)]
  simp only [e1, e2]
  rfl
theorem encR_ek {N M E : Nat} {v h p m db dl du dq dw ek eb el : Nat → Int32} {t1 t2 t3 t4 t5 t6 : Int32} {j b : Nat} (hj : j = 59 + 3 * b + 0) (hb : b < 10) : encT N v h p m M db dl du dq dw E ek eb el t1 t2 t3 t4 t5 t6 j = ek b := by
  have e1 : (j - 59) % 3 = 0 := by omega
  have e2 : (j - 59) / 3 = b := by omega
  unfold encT
  rw [if_neg (by omega), if_neg (by omega), if_neg (by omega)]
  simp only [e1, e2]
  rfl
theorem encR_eb {N M E : Nat} {v h p m db dl du dq dw ek eb el : Nat → Int32} {t1 t2 t3 t4 t5 t6 : Int32} {j b : Nat} (hj : j = 59 + 3 * b + 1) (hb : b < 10) : encT N v h p m M db dl du dq dw E ek eb el t1 t2 t3 t4 t5 t6 j = eb b := by
  have e1 : (j - 59) % 3 = 1 := by omega
  have e2 : (j - 59) / 3 = b := by omega
  unfold encT
  rw [if_neg (by omega), if_neg (by omega), if_neg (by omega)]
  simp only [e1, e2]
  rfl
theorem encR_el {N M E : Nat} {v h p m db dl du dq dw ek eb el : Nat → Int32} {t1 t2 t3 t4 t5 t6 : Int32} {j b : Nat} (hj : j = 59 + 3 * b + 2) (hb : b < 10) : encT N v h p m M db dl du dq dw E ek eb el t1 t2 t3 t4 t5 t6 j = (if el b = -1 then 0 else el b) := by
  have e1 : (j - 59) % 3 = 2 := by omega
  have e2 : (j - 59) / 3 = b := by omega
  unfold encT
  rw [if_neg (by omega), if_neg (by omega), if_neg (by omega)]
  simp only [e1, e2]
  rfl
theorem encR_0 {N M E : Nat} {v h p m db dl du dq dw ek eb el : Nat → Int32} {t1 t2 t3 t4 t5 t6 : Int32} {j : Nat} (hj : j = 0) : encT N v h p m M db dl du dq dw E ek eb el t1 t2 t3 t4 t5 t6 j = nI N := by subst hj; rfl
theorem encR_1 {N M E : Nat} {v h p m db dl du dq dw ek eb el : Nat → Int32} {t1 t2 t3 t4 t5 t6 : Int32} {j : Nat} (hj : j = 1) : encT N v h p m M db dl du dq dw E ek eb el t1 t2 t3 t4 t5 t6 j = nI M := by subst hj; rfl
theorem encR_2 {N M E : Nat} {v h p m db dl du dq dw ek eb el : Nat → Int32} {t1 t2 t3 t4 t5 t6 : Int32} {j : Nat} (hj : j = 2) : encT N v h p m M db dl du dq dw E ek eb el t1 t2 t3 t4 t5 t6 j = nI E := by subst hj; rfl
theorem encR_3 {N M E : Nat} {v h p m db dl du dq dw ek eb el : Nat → Int32} {t1 t2 t3 t4 t5 t6 : Int32} {j : Nat} (hj : j = 3) : encT N v h p m M db dl du dq dw E ek eb el t1 t2 t3 t4 t5 t6 j = t1 := by subst hj; rfl
theorem encR_4 {N M E : Nat} {v h p m db dl du dq dw ek eb el : Nat → Int32} {t1 t2 t3 t4 t5 t6 : Int32} {j : Nat} (hj : j = 4) : encT N v h p m M db dl du dq dw E ek eb el t1 t2 t3 t4 t5 t6 j = t2 := by subst hj; rfl
theorem encR_5 {N M E : Nat} {v h p m db dl du dq dw ek eb el : Nat → Int32} {t1 t2 t3 t4 t5 t6 : Int32} {j : Nat} (hj : j = 5) : encT N v h p m M db dl du dq dw E ek eb el t1 t2 t3 t4 t5 t6 j = t3 := by subst hj; rfl
theorem encR_6 {N M E : Nat} {v h p m db dl du dq dw ek eb el : Nat → Int32} {t1 t2 t3 t4 t5 t6 : Int32} {j : Nat} (hj : j = 6) : encT N v h p m M db dl du dq dw E ek eb el t1 t2 t3 t4 t5 t6 j = t4 := by subst hj; rfl
theorem encR_7 {N M E : Nat} {v h p m db dl du dq dw ek eb el : Nat → Int32} {t1 t2 t3 t4 t5 t6 : Int32} {j : Nat} (hj : j = 7) : encT N v h p m M db dl du dq dw E ek eb el t1 t2 t3 t4 t5 t6 j = t5 := by subst hj; rfl
theorem encR_8 {N M E : Nat} {v h p m db dl du dq dw ek eb el : Nat → Int32} {t1 t2 t3 t4 t5 t6 : Int32} {j : Nat} (hj : j = 8) : encT N v h p m M db dl du dq dw E ek eb el t1 t2 t3 t4 t5 t6 j = t6 := by subst hj; rfl
theorem encU_v {N M E : Nat} {v h p m db dl du dq dw ek eb el : Nat → Int32} {t1 t2 t3 t4 t5 t6 : Int32} {j b : Nat} {x : Int32} (hj : j = 9 + 4 * b + 0) (hb : b < 5) : upd (encT N v h p m M db dl du dq dw E ek eb el t1 t2 t3 t4 t5 t6) j x = encT N (upd v b x) h p m M db dl du dq dw E ek eb el t1 t2 t3 t4 t5 t6 := by
  funext i
  by_cases hi : i = j
  · subst hi
    rw [m_updS, encR_v hj hb, m_updS]
  · have e0 : upd (encT N v h p m M db dl du dq dw E ek eb el t1 t2 t3 t4 t5 t6) j x i = encT N v h p m M db dl du dq dw E ek eb el t1 t2 t3 t4 t5 t6 i := if_neg hi
    rw [e0]
    unfold encT
    by_cases h1 : i < 9
    · rw [if_pos h1, if_pos h1]
    · rw [if_neg h1, if_neg h1]
      by_cases h2 : i < 29
      · rw [if_pos h2, if_pos h2]
        have e9 : (i - 9) % 4 = 0 → (i - 9) / 4 ≠ b := fun q r => hi (by omega)
        (repeat' split) <;> first | rfl | exact (if_neg (e9 (by omega))).symm
      · rw [if_neg h2, if_neg h2]
theorem encU_h {N M E : Nat} {v h p m db dl du dq dw ek eb el : Nat → Int32} {t1 t2 t3 t4 t5 t6 : Int32} {j b : Nat} {x : Int32} (hj : j = 9 + 4 * b + 1) (hb : b < 5) : upd (encT N v h p m M db dl du dq dw E ek eb el t1 t2 t3 t4 t5 t6) j x = encT N v (upd h b x) p m M db dl du dq dw E ek eb el t1 t2 t3 t4 t5 t6 := by
  funext i
  by_cases hi : i = j
  · subst hi
    rw [m_updS, encR_h hj hb, m_updS]
  · have e0 : upd (encT N v h p m M db dl du dq dw E ek eb el t1 t2 t3 t4 t5 t6) j x i = encT N v h p m M db dl du dq dw E ek eb el t1 t2 t3 t4 t5 t6 i := if_neg hi
    rw [e0]
    unfold encT
    by_cases h1 : i < 9
    · rw [if_pos h1, if_pos h1]
    · rw [if_neg h1, if_neg h1]
      by_cases h2 : i < 29
      · rw [if_pos h2, if_pos h2]
        have e9 : (i - 9) % 4 = 1 → (i - 9) / 4 ≠ b := fun q r => hi (by omega)
        (repeat' split) <;> first | rfl | exact (if_neg (e9 (by omega))).symm
      · rw [if_neg h2, if_neg h2]
theorem encU_m {N M E : Nat} {v h p m db dl du dq dw ek eb el : Nat → Int32} {t1 t2 t3 t4 t5 t6 : Int32} {j b : Nat} {x : Int32} (hj : j = 9 + 4 * b + 3) (hb : b < 5) : upd (encT N v h p m M db dl du dq dw E ek eb el t1 t2 t3 t4 t5 t6) j x = encT N v h p (upd m b x) M db dl du dq dw E ek eb el t1 t2 t3 t4 t5 t6 := by
  funext i
  by_cases hi : i = j
  · subst hi
    rw [m_updS, encR_m hj hb, m_updS]
  · have e0 : upd (encT N v h p m M db dl du dq dw E ek eb el t1 t2 t3 t4 t5 t6) j x i = encT N v h p m M db dl du dq dw E ek eb el t1 t2 t3 t4 t5 t6 i := if_neg hi
    rw [e0]
    unfold encT
    by_cases h1 : i < 9
    · rw [if_pos h1, if_pos h1]
    · rw [if_neg h1, if_neg h1]
      by_cases h2 : i < 29
      · rw [if_pos h2, if_pos h2]
        have e9 : (i - 9) % 4 = 3 → (i - 9) / 4 ≠ b := fun q r => hi (by omega)
        (repeat' split) <;> first | rfl | exact (if_neg (e9 (by omega))).symm
      · rw [if_neg h2, if_neg h2]
theorem encU_db {N M E : Nat} {v h p m db dl du dq dw ek eb el : Nat → Int32} {t1 t2 t3 t4 t5 t6 : Int32} {j b : Nat} {x : Int32} (hj : j = 29 + 5 * b + 0) (hb : b < 6) : upd (encT N v h p m M db dl du dq dw E ek eb el t1 t2 t3 t4 t5 t6) j x = encT N v h p m M (upd db b x) dl du dq dw E ek eb el t1 t2 t3 t4 t5 t6 := by
  funext i
  by_cases hi : i = j
  · subst hi
    rw [m_updS, encR_db hj hb, m_updS]
  · have e0 : upd (encT N v h p m M db dl du dq dw E ek eb el t1 t2 t3 t4 t5 t6) j x i = encT N v h p m M db dl du dq dw E ek eb el t1 t2 t3 t4 t5 t6 i := if_neg hi
    rw [e0]
    unfold encT
    by_cases h1 : i < 9
    · rw [if_pos h1, if_pos h1]
    · rw [if_neg h1, if_neg h1]
      by_cases h2 : i < 29
      · rw [if_pos h2, if_pos h2]
      · rw [if_neg h2, if_neg h2]
        by_cases h3 : i < 59
        · rw [if_pos h3, if_pos h3]
          have e9 : (i - 29) % 5 = 0 → (i - 29) / 5 ≠ b := fun q r => hi (by omega)
          (repeat' split) <;> first | rfl | exact (if_neg (e9 (by omega))).symm
        · rw [if_neg h3, if_neg h3]
theorem encU_dl {N M E : Nat} {v h p m db dl du dq dw ek eb el : Nat → Int32} {t1 t2 t3 t4 t5 t6 : Int32} {j b : Nat} {x : Int32} (hj : j = 29 + 5 * b + 1) (hb : b < 6) : upd (encT N v h p m M db dl du dq dw E ek eb el t1 t2 t3 t4 t5 t6) j x = encT N v h p m M db (upd dl b x) du dq dw E ek eb el t1 t2 t3 t4 t5 t6 := by
  funext i
  by_cases hi : i = j
  · subst hi
    rw [m_updS, encR_dl hj hb, m_updS]
  · have e0 : upd (encT N v h p m M db dl du dq dw E ek eb el t1 t2 t3 t4 t5 t6) j x i = encT N v h p m M db dl du dq dw E ek eb el t1 t2 t3 t4 t5 t6 i := if_neg hi
    rw [e0]
    unfold encT
    by_cases h1 : i < 9
    · rw [if_pos h1, if_pos h1]
    · rw [if_neg h1, if_neg h1]
      by_cases h2 : i < 29
      · rw [if_pos h2, if_pos h2]
      · rw [if_neg h2, if_neg h2]
        by_cases h3 : i < 59
        · rw [if_pos h3, if_pos h3]
          have e9 : (i - 29) % 5 = 1 → (i - 29) / 5 ≠ b := fun q r => hi (by omega)
          (repeat' split) <;> first | rfl | exact (if_neg (e9 (by omega))).symm
        · rw [if_neg h3, if_neg h3]
theorem encU_du {N M E : Nat} {v h p m db dl du dq dw ek eb el : Nat → Int32} {t1 t2 t3 t4 t5 t6 : Int32} {j b : Nat} {x : Int32} (hj : j = 29 + 5 * b + 2) (hb : b < 6) : upd (encT N v h p m M db dl du dq dw E ek eb el t1 t2 t3 t4 t5 t6) j x = encT N v h p m M db dl (upd du b x) dq dw E ek eb el t1 t2 t3 t4 t5 t6 := by
  funext i
  by_cases hi : i = j
  · subst hi
    rw [m_updS, encR_du hj hb, m_updS]
  · have e0 : upd (encT N v h p m M db dl du dq dw E ek eb el t1 t2 t3 t4 t5 t6) j x i = encT N v h p m M db dl du dq dw E ek eb el t1 t2 t3 t4 t5 t6 i := if_neg hi
    rw [e0]
    unfold encT
    by_cases h1 : i < 9
    · rw [if_pos h1, if_pos h1]
    · rw [if_neg h1, if_neg h1]
      by_cases h2 : i < 29
      · rw [if_pos h2, if_pos h2]
      · rw [if_neg h2, if_neg h2]
        by_cases h3 : i < 59
        · rw [if_pos h3, if_pos h3]
          have e9 : (i - 29) % 5 = 2 → (i - 29) / 5 ≠ b := fun q r => hi (by omega)
          (repeat' split) <;> first | rfl | exact (if_neg (e9 (by omega))).symm
        · rw [if_neg h3, if_neg h3]
theorem encU_dq {N M E : Nat} {v h p m db dl du dq dw ek eb el : Nat → Int32} {t1 t2 t3 t4 t5 t6 : Int32} {j b : Nat} {x : Int32} (hj : j = 29 + 5 * b + 3) (hb : b < 6) : upd (encT N v h p m M db dl du dq dw E ek eb el t1 t2 t3 t4 t5 t6) j x = encT N v h p m M db dl du (upd dq b x) dw E ek eb el t1 t2 t3 t4 t5 t6 := by
  funext i
  by_cases hi : i = j
  · subst hi
    rw [m_updS, encR_dq hj hb, m_updS]
  · have e0 : upd (encT N v h p m M db dl du dq dw E ek eb el t1 t2 t3 t4 t5 t6) j x i = encT N v h p m M db dl du dq dw E ek eb el t1 t2 t3 t4 t5 t6 i := if_neg hi
    rw [e0]
    unfold encT
    by_cases h1 : i < 9
    · rw [if_pos h1, if_pos h1]
    · rw [if_neg h1, if_neg h1]
      by_cases h2 : i < 29
      · rw [if_pos h2, if_pos h2]
      · rw [if_neg h2, if_neg h2]
        by_cases h3 : i < 59
        · rw [if_pos h3, if_pos h3]
          have e9 : (i - 29) % 5 = 3 → (i - 29) / 5 ≠ b := fun q r => hi (by omega)
          (repeat' split) <;> first | rfl | exact (if_neg (e9 (by omega))).symm
        · rw [if_neg h3, if_neg h3]
theorem encU_dw {N M E : Nat} {v h p m db dl du dq dw ek eb el : Nat → Int32} {t1 t2 t3 t4 t5 t6 : Int32} {j b : Nat} {x : Int32} (hj : j = 29 + 5 * b + 4) (hb : b < 6) : upd (encT N v h p m M db dl du dq dw E ek eb el t1 t2 t3 t4 t5 t6) j x = encT N v h p m M db dl du dq (upd dw b x) E ek eb el t1 t2 t3 t4 t5 t6 := by
  funext i
  by_cases hi : i = j
  · subst hi
    rw [m_updS, encR_dw hj hb, m_updS]
  · have e0 : upd (encT N v h p m M db dl du dq dw E ek eb el t1 t2 t3 t4 t5 t6) j x i = encT N v h p m M db dl du dq dw E ek eb el t1 t2 t3 t4 t5 t6 i := if_neg hi
    rw [e0]
    unfold encT
    by_cases h1 : i < 9
    · rw [if_pos h1, if_pos h1]
    · rw [if_neg h1, if_neg h1]
      by_cases h2 : i < 29
      · rw [if_pos h2, if_pos h2]
      · rw [if_neg h2, if_neg h2]
        by_cases h3 : i < 59
        · rw [if_pos h3, if_pos h3]
          have e9 : (i - 29) % 5 = 4 → (i - 29) / 5 ≠ b := fun q r => hi (by omega)
          (repeat' split) <;> first | rfl | exact (if_neg (e9 (by omega))).symm
        · rw [if_neg h3, if_neg h3]
theorem encU_ek {N M E : Nat} {v h p m db dl du dq dw ek eb el : Nat → Int32} {t1 t2 t3 t4 t5 t6 : Int32} {j b : Nat} {x : Int32} (hj : j = 59 + 3 * b + 0) (hb : b < 10) : upd (encT N v h p m M db dl du dq dw E ek eb el t1 t2 t3 t4 t5 t6) j x = encT N v h p m M db dl du dq dw E (upd ek b x) eb el t1 t2 t3 t4 t5 t6 := by
  funext i
  by_cases hi : i = j
  · subst hi
    rw [m_updS, encR_ek hj hb, m_updS]
  · have e0 : upd (encT N v h p m M db dl du dq dw E ek eb el t1 t2 t3 t4 t5 t6) j x i = encT N v h p m M db dl du dq dw E ek eb el t1 t2 t3 t4 t5 t6 i := if_neg hi
    rw [e0]
    unfold encT
    by_cases h1 : i < 9
    · rw [if_pos h1, if_pos h1]
    · rw [if_neg h1, if_neg h1]
      by_cases h2 : i < 29
      · rw [if_pos h2, if_pos h2]
      · rw [if_neg h2, if_neg h2]
        by_cases h3 : i < 59
        · rw [if_pos h3, if_pos h3]
        · rw [if_neg h3, if_neg h3]
          have e9 : (i - 59) % 3 = 0 → (i - 59) / 3 ≠ b := fun q r => hi (by omega)
          (repeat' split) <;> first | rfl | exact (if_neg (e9 (by omega))).symm
theorem encU_eb {N M E : Nat} {v h p m db dl du dq dw ek eb el : Nat → Int32} {t1 t2 t3 t4 t5 t6 : Int32} {j b : Nat} {x : Int32} (hj : j = 59 + 3 * b + 1) (hb : b < 10) : upd (encT N v h p m M db dl du dq dw E ek eb el t1 t2 t3 t4 t5 t6) j x = encT N v h p m M db dl du dq dw E ek (upd eb b x) el t1 t2 t3 t4 t5 t6 := by
  funext i
  by_cases hi : i = j
  · subst hi
    rw [m_updS, encR_eb hj hb, m_updS]
  · have e0 : upd (encT N v h p m M db dl du dq dw E ek eb el t1 t2 t3 t4 t5 t6) j x i = encT N v h p m M db dl du dq dw E ek eb el t1 t2 t3 t4 t5 t6 i := if_neg hi
    rw [e0]
    unfold encT
    by_cases h1 : i < 9
    · rw [if_pos h1, if_pos h1]
    · rw [if_neg h1, if_neg h1]
      by_cases h2 : i < 29
      · rw [if_pos h2, if_pos h2]
      · rw [if_neg h2, if_neg h2]
        by_cases h3 : i < 59
        · rw [if_pos h3, if_pos h3]
        · rw [if_neg h3, if_neg h3]
          have e9 : (i - 59) % 3 = 1 → (i - 59) / 3 ≠ b := fun q r => hi (by omega)
          (repeat' split) <;> first | rfl | exact (if_neg (e9 (by omega))).symm
theorem encU_3 {N M E : Nat} {v h p m db dl du dq dw ek eb el : Nat → Int32} {t1 t2 t3 t4 t5 t6 : Int32} {j : Nat} {x : Int32} (hj : j = 3) : upd (encT N v h p m M db dl du dq dw E ek eb el t1 t2 t3 t4 t5 t6) j x = encT N v h p m M db dl du dq dw E ek eb el x t2 t3 t4 t5 t6 := by
  funext i
  by_cases hi : i = j
  · subst hi
    rw [m_updS, encR_3 hj]
  · have e0 : upd (encT N v h p m M db dl du dq dw E ek eb el t1 t2 t3 t4 t5 t6) j x i = encT N v h p m M db dl du dq dw E ek eb el t1 t2 t3 t4 t5 t6 i := if_neg hi
    rw [e0]
    subst hj
    unfold encT
    by_cases h1 : i < 9
    · rw [if_pos h1, if_pos h1]
      match i, h1 with
      | 0, _ => rfl
      | 1, _ => rfl
      | 2, _ => rfl
      | 3, _ => first | rfl | exact absurd rfl hi
      | 4, _ => first | rfl | exact absurd rfl hi
      | 5, _ => first | rfl | exact absurd rfl hi
      | 6, _ => first | rfl | exact absurd rfl hi
      | 7, _ => first | rfl | exact absurd rfl hi
      | 8, _ => first | rfl | exact absurd rfl hi
    · rw [if_neg h1, if_neg h1]
theorem encU_4 {N M E : Nat} {v h p m db dl du dq dw ek eb el : Nat → Int32} {t1 t2 t3 t4 t5 t6 : Int32} {j : Nat} {x : Int32} (hj : j = 4) : upd (encT N v h p m M db dl du dq dw E ek eb el t1 t2 t3 t4 t5 t6) j x = encT N v h p m M db dl du dq dw E ek eb el t1 x t3 t4 t5 t6 := by
  funext i
  by_cases hi : i = j
  · subst hi
    rw [m_updS, encR_4 hj]
  · have e0 : upd (encT N v h p m M db dl du dq dw E ek eb el t1 t2 t3 t4 t5 t6) j x i = encT N v h p m M db dl du dq dw E ek eb el t1 t2 t3 t4 t5 t6 i := if_neg hi
    rw [e0]
    subst hj
    unfold encT
    by_cases h1 : i < 9
    · rw [if_pos h1, if_pos h1]
      match i, h1 with
      | 0, _ => rfl
      | 1, _ => rfl
      | 2, _ => rfl
      | 3, _ => first | rfl | exact absurd rfl hi
      | 4, _ => first | rfl | exact absurd rfl hi
      | 5, _ => first | rfl | exact absurd rfl hi
      | 6, _ => first | rfl | exact absurd rfl hi
      | 7, _ => first | rfl | exact absurd rfl hi
      | 8, _ => first | rfl | exact absurd rfl hi
    · rw [if_neg h1, if_neg h1]
theorem encU_5 {N M E : Nat} {v h p m db dl du dq dw ek eb el : Nat → Int32} {t1 t2 t3 t4 t5 t6 : Int32} {j : Nat} {x : Int32} (hj : j = 5) : upd (encT N v h p m M db dl du dq dw E ek eb el t1 t2 t3 t4 t5 t6) j x = encT N v h p m M db dl du dq dw E ek eb el t1 t2 x t4 t5 t6 := by
  funext i
  by_cases hi : i = j
  · subst hi
    rw [m_updS, encR_5 hj]
  · have e0 : upd (encT N v h p m M db dl du dq dw E ek eb el t1 t2 t3 t4 t5 t6) j x i = encT N v h p m M db dl du dq dw E ek eb el t1 t2 t3 t4 t5 t6 i := if_neg hi
    rw [e0]
    subst hj
    unfold encT
    by_cases h1 : i < 9
    · rw [if_pos h1, if_pos h1]
      match i, h1 with
      | 0, _ => rfl
      | 1, _ => rfl
      | 2, _ => rfl
      | 3, _ => first | rfl | exact absurd rfl hi
      | 4, _ => first | rfl | exact absurd rfl hi
      | 5, _ => first | rfl | exact absurd rfl hi
      | 6, _ => first | rfl | exact absurd rfl hi
      | 7, _ => first | rfl | exact absurd rfl hi
      | 8, _ => first | rfl | exact absurd rfl hi
    · rw [if_neg h1, if_neg h1]
theorem encU_6 {N M E : Nat} {v h p m db dl du dq dw ek eb el : Nat → Int32} {t1 t2 t3 t4 t5 t6 : Int32} {j : Nat} {x : Int32} (hj : j = 6) : upd (encT N v h p m M db dl du dq dw E ek eb el t1 t2 t3 t4 t5 t6) j x = encT N v h p m M db dl du dq dw E ek eb el t1 t2 t3 x t5 t6 := by
  funext i
  by_cases hi : i = j
  · subst hi
    rw [m_updS, encR_6 hj]
  · have e0 : upd (encT N v h p m M db dl du dq dw E ek eb el t1 t2 t3 t4 t5 t6) j x i = encT N v h p m M db dl du dq dw E ek eb el t1 t2 t3 t4 t5 t6 i := if_neg hi
    rw [e0]
    subst hj
    unfold encT
    by_cases h1 : i < 9
    · rw [if_pos h1, if_pos h1]
      match i, h1 with
      | 0, _ => rfl
      | 1, _ => rfl
      | 2, _ => rfl
      | 3, _ => first | rfl | exact absurd rfl hi
      | 4, _ => first | rfl | exact absurd rfl hi
      | 5, _ => first | rfl | exact absurd rfl hi
      | 6, _ => first | rfl | exact absurd rfl hi
      | 7, _ => first | rfl | exact absurd rfl hi
      | 8, _ => first | rfl | exact absurd rfl hi
    · rw [if_neg h1, if_neg h1]
theorem encU_7 {N M E : Nat} {v h p m db dl du dq dw ek eb el : Nat → Int32} {t1 t2 t3 t4 t5 t6 : Int32} {j : Nat} {x : Int32} (hj : j = 7) : upd (encT N v h p m M db dl du dq dw E ek eb el t1 t2 t3 t4 t5 t6) j x = encT N v h p m M db dl du dq dw E ek eb el t1 t2 t3 t4 x t6 := by
  funext i
  by_cases hi : i = j
  · subst hi
    rw [m_updS, encR_7 hj]
  · have e0 : upd (encT N v h p m M db dl du dq dw E ek eb el t1 t2 t3 t4 t5 t6) j x i = encT N v h p m M db dl du dq dw E ek eb el t1 t2 t3 t4 t5 t6 i := if_neg hi
    rw [e0]
    subst hj
    unfold encT
    by_cases h1 : i < 9
    · rw [if_pos h1, if_pos h1]
      match i, h1 with
      | 0, _ => rfl
      | 1, _ => rfl
      | 2, _ => rfl
      | 3, _ => first | rfl | exact absurd rfl hi
      | 4, _ => first | rfl | exact absurd rfl hi
      | 5, _ => first | rfl | exact absurd rfl hi
      | 6, _ => first | rfl | exact absurd rfl hi
      | 7, _ => first | rfl | exact absurd rfl hi
      | 8, _ => first | rfl | exact absurd rfl hi
    · rw [if_neg h1, if_neg h1]
theorem encU_8 {N M E : Nat} {v h p m db dl du dq dw ek eb el : Nat → Int32} {t1 t2 t3 t4 t5 t6 : Int32} {j : Nat} {x : Int32} (hj : j = 8) : upd (encT N v h p m M db dl du dq dw E ek eb el t1 t2 t3 t4 t5 t6) j x = encT N v h p m M db dl du dq dw E ek eb el t1 t2 t3 t4 t5 x := by
  funext i
  by_cases hi : i = j
  · subst hi
    rw [m_updS, encR_8 hj]
  · have e0 : upd (encT N v h p m M db dl du dq dw E ek eb el t1 t2 t3 t4 t5 t6) j x i = encT N v h p m M db dl du dq dw E ek eb el t1 t2 t3 t4 t5 t6 i := if_neg hi
    rw [e0]
    subst hj
    unfold encT
    by_cases h1 : i < 9
    · rw [if_pos h1, if_pos h1]
      match i, h1 with
      | 0, _ => rfl
      | 1, _ => rfl
      | 2, _ => rfl
      | 3, _ => first | rfl | exact absurd rfl hi
      | 4, _ => first | rfl | exact absurd rfl hi
      | 5, _ => first | rfl | exact absurd rfl hi
      | 6, _ => first | rfl | exact absurd rfl hi
      | 7, _ => first | rfl | exact absurd rfl hi
      | 8, _ => first | rfl | exact absurd rfl hi
    · rw [if_neg h1, if_neg h1]
theorem encU_1 {N M E : Nat} {v h p m db dl du dq dw ek eb el : Nat → Int32} {t1 t2 t3 t4 t5 t6 : Int32} {j M1 : Nat} {x : Int32} (hj : j = 1) (hx : x = nI M1) : upd (encT N v h p m M db dl du dq dw E ek eb el t1 t2 t3 t4 t5 t6) j x = encT N v h p m M1 db dl du dq dw E ek eb el t1 t2 t3 t4 t5 t6 := by
  funext i
  by_cases hi : i = j
  · subst hi
    rw [m_updS, encR_1 hj, hx]
  · have e0 : upd (encT N v h p m M db dl du dq dw E ek eb el t1 t2 t3 t4 t5 t6) j x i = encT N v h p m M db dl du dq dw E ek eb el t1 t2 t3 t4 t5 t6 i := if_neg hi
    rw [e0]
    subst hj
    unfold encT
    by_cases h1 : i < 9
    · rw [if_pos h1, if_pos h1]
      match i, h1 with
      | 0, _ => rfl
      | 1, _ => first | rfl | exact absurd rfl hi
      | 2, _ => first | rfl | exact absurd rfl hi
      | 3, _ => rfl
      | 4, _ => rfl
      | 5, _ => rfl
      | 6, _ => rfl
      | 7, _ => rfl
      | 8, _ => rfl
    · rw [if_neg h1, if_neg h1]
theorem encU_2 {N M E : Nat} {v h p m db dl du dq dw ek eb el : Nat → Int32} {t1 t2 t3 t4 t5 t6 : Int32} {j E1 : Nat} {x : Int32} (hj : j = 2) (hx : x = nI E1) : upd (encT N v h p m M db dl du dq dw E ek eb el t1 t2 t3 t4 t5 t6) j x = encT N v h p m M db dl du dq dw E1 ek eb el t1 t2 t3 t4 t5 t6 := by
  funext i
  by_cases hi : i = j
  · subst hi
    rw [m_updS, encR_2 hj, hx]
  · have e0 : upd (encT N v h p m M db dl du dq dw E ek eb el t1 t2 t3 t4 t5 t6) j x i = encT N v h p m M db dl du dq dw E ek eb el t1 t2 t3 t4 t5 t6 i := if_neg hi
    rw [e0]
    subst hj
    unfold encT
    by_cases h1 : i < 9
    · rw [if_pos h1, if_pos h1]
      match i, h1 with
      | 0, _ => rfl
      | 1, _ => first | rfl | exact absurd rfl hi
      | 2, _ => first | rfl | exact absurd rfl hi
      | 3, _ => rfl
      | 4, _ => rfl
      | 5, _ => rfl
      | 6, _ => rfl
      | 7, _ => rfl
      | 8, _ => rfl
    · rw [if_neg h1, if_neg h1]
theorem encU_o {N M E : Nat} {v h p m db dl du dq dw ek eb el : Nat → Int32} {t1 t2 t3 t4 t5 t6 : Int32} {j b : Nat} {x y : Int32} (hj : j = 9 + 4 * b + 2) (hb : b < 5) (hN : b < N) (hx : x = if y = 0 then 1 else 0) : upd (encT N v h p m M db dl du dq dw E ek eb el t1 t2 t3 t4 t5 t6) j x = encT N v h (upd p b y) m M db dl du dq dw E ek eb el t1 t2 t3 t4 t5 t6 := by
  funext i
  by_cases hi : i = j
  · subst hi
    rw [m_updS, encR_o hj hb, m_updS, hx]
    by_cases q : y = 0
    · rw [if_pos q, if_pos ⟨q, hN⟩]
    · rw [if_neg q, if_neg (fun z => q z.1)]
  · have e0 : upd (encT N v h p m M db dl du dq dw E ek eb el t1 t2 t3 t4 t5 t6) j x i = encT N v h p m M db dl du dq dw E ek eb el t1 t2 t3 t4 t5 t6 i := if_neg hi
    rw [e0]
    unfold encT
    by_cases h1 : i < 9
    · rw [if_pos h1, if_pos h1]
    · rw [if_neg h1, if_neg h1]
      by_cases h2 : i < 29
      · rw [if_pos h2, if_pos h2]
        have e9 : (i - 9) % 4 = 2 → (i - 9) / 4 ≠ b := fun q r => hi (by omega)
        (repeat' split) <;> first | rfl | (next z1 z2 z3 z4 z5 => exact absurd (by rw [if_neg (e9 (by omega))] at z5; exact z5) z4) | skip
        all_goals (first | rfl | (exfalso; have e8 := e9 (by omega); simp_all [upd]))
      · rw [if_neg h2, if_neg h2]
theorem encU_0 {N M E : Nat} {v h p m db dl du dq dw ek eb el : Nat → Int32} {t1 t2 t3 t4 t5 t6 : Int32} {j : Nat} {x : Int32} (hj : j = 0) (hx : x = nI (N + 1)) : upd (encT N v h p m M db dl du dq dw E ek eb el t1 t2 t3 t4 t5 t6) j x = encT (N + 1) v h (upd p N 1) m M db dl du dq dw E ek eb el t1 t2 t3 t4 t5 t6 := by
  funext i
  by_cases hi : i = j
  · subst hi
    rw [m_updS, encR_0 hj, hx]
  · have e0 : upd (encT N v h p m M db dl du dq dw E ek eb el t1 t2 t3 t4 t5 t6) j x i = encT N v h p m M db dl du dq dw E ek eb el t1 t2 t3 t4 t5 t6 i := if_neg hi
    rw [e0]
    subst hj
    unfold encT
    by_cases h1 : i < 9
    · rw [if_pos h1, if_pos h1]
      match i, h1 with
      | 0, _ => exact absurd rfl hi
      | 1, _ => rfl
      | 2, _ => rfl
      | 3, _ => rfl
      | 4, _ => rfl
      | 5, _ => rfl
      | 6, _ => rfl
      | 7, _ => rfl
      | 8, _ => rfl
    · rw [if_neg h1, if_neg h1]
      have e9 : (p ((i - 9) / 4) = 0 ∧ (i - 9) / 4 < N) ↔ (upd p N 1 ((i - 9) / 4) = 0 ∧ (i - 9) / 4 < N + 1) := by
        unfold upd
        by_cases q : (i - 9) / 4 = N
        · rw [if_pos q]
          exact ⟨fun z => absurd z.2 (by omega), fun z => absurd z.1 (by decide)⟩
        · rw [if_neg q]
          exact ⟨fun z => ⟨z.1, by omega⟩, fun z => ⟨z.1, by omega⟩⟩
      simp only [e9]
