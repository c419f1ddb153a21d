theorem ltr00 {t g x : Int32} (h : t = 0) (c : x ≤ g) : (if (if t = 0 then x ≤ g else ¬ x < g) then (1 : Int32) else 0) = 1 := if_pos (by rw [if_pos h]; exact c)
theorem ltr01 {t g x : Int32} (h : t = 0) (c : ¬ x ≤ g) : ¬ (if (if t = 0 then x ≤ g else ¬ x < g) then (1 : Int32) else 0) = 1 := by
  rw [if_neg (by rw [if_pos h]; exact c)]
  decide
theorem ltr10 {t g x : Int32} (h : ¬ t = 0) (c : ¬ x < g) : (if (if t = 0 then x ≤ g else ¬ x < g) then (1 : Int32) else 0) = 1 := if_pos (by rw [if_neg h]; exact c)
theorem ltr11 {t g x : Int32} (h : ¬ t = 0) (c : x < g) : ¬ (if (if t = 0 then x ≤ g else ¬ x < g) then (1 : Int32) else 0) = 1 := by
  rw [if_neg (by rw [if_neg h]; exact fun z => z c)]
  decide
