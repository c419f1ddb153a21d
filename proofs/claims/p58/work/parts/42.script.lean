/-! the reader of scripts: the place, and whether it went wrong -/
abbrev Lx : Type := Nat × Bool
def bI (b : Bool) : Int32 := if b = true then 1 else 0
theorem bI_f {b : Bool} (h : bI b = 0) : b = false := by cases b; rfl; exact absurd h (by decide)
theorem bI_t {b : Bool} (h : ¬ bI b = 0) : b = true := by cases b; exact absurd (by decide) h; rfl
theorem bI_z (b : Bool) : vp_nar .boolean (bI b) = bI b := by cases b <;> rfl
def pk (f : Nat → Int32) (L : Nat) (x : Lx) : Int32 := if x.2 = true then 0 else if x.1 < L then f x.1 else 0
def sg (f : Nat → Int32) (L : Nat) (c : Int32) (x : Lx) : Lx := if pk f L x = c then (x.1 + 1, false) else (x.1, true)
def wd (f : Nat → Int32) (L : Nat) : List Int32 → Lx → Lx
  | [], x => x
  | c :: cs, x => wd f L cs (sg f L c x)
def isD (c : Int32) : Bool := inR c 48 57
def dgX (f : Nat → Int32) (L : Nat) (x : Lx) : Lx := if isD (pk f L x) = true then (x.1 + 1, x.2) else (x.1, true)
def dgV (f : Nat → Int32) (L : Nat) (x : Lx) : Int32 := if isD (pk f L x) = true then pk f L x - 48 else 0
def nmX (f : Nat → Int32) (L : Nat) (x : Lx) : Lx := if isD (pk f L (dgX f L x)) = true then dgX f L (dgX f L x) else dgX f L x
def nmV (f : Nat → Int32) (L : Nat) (x : Lx) : Int32 := if isD (pk f L (dgX f L x)) = true then 10 * dgV f L x + dgV f L (dgX f L x) else dgV f L x
def tlX (f : Nat → Int32) (L : Nat) (x : Lx) : Lx := if pk f L x = 99 then sg f L 99 x else if pk f L x = 119 then sg f L 119 x else sg f L 104 x
def tlV (f : Nat → Int32) (L : Nat) (x : Lx) : Int32 := if pk f L x = 99 then 0 else if pk f L x = 119 then 1 else 2
def psX (f : Nat → Int32) (L : Nat) (x : Lx) : Lx := if pk f L x = 43 then sg f L 43 x else sg f L 45 x
def psV (f : Nat → Int32) (L : Nat) (x : Lx) : Int32 := if pk f L x = 43 then 1 else 0
theorem pk_wrong {f : Nat → Int32} {L : Nat} {x : Lx} (h : x.2 = true) : pk f L x = 0 := if_pos h
theorem pk_y {f : Nat → Int32} {L : Nat} {x : Lx} {c : Int32} (hc : ¬ c = 0) (h : pk f L x = c) : x.2 = false ∧ x.1 < L ∧ f x.1 = c := by
  unfold pk at h
  by_cases z : x.2 = true
  · rw [if_pos z] at h; exact absurd h.symm hc
  · rw [if_neg z] at h
    by_cases y : x.1 < L
    · rw [if_pos y] at h; exact ⟨by simpa using z, y, h⟩
    · rw [if_neg y] at h; exact absurd h.symm hc
theorem pk_c {f : Nat → Int32} {L : Nat} {x : Lx} (hf : czN 60 f) (hL : L ≤ 60) : vp_nar .char (pk f L x) = pk f L x := by
  unfold pk
  split
  · rfl
  · split
    · exact hf _ (by omega)
    · rfl
theorem isD_y {f : Nat → Int32} {L : Nat} {x : Lx} (h : isD (pk f L x) = true) : x.2 = false ∧ x.1 < L := by
  have hc : ¬ pk f L x = 0 := fun z => by rw [z] at h; exact absurd h (by decide)
  obtain ⟨a, b, -⟩ := pk_y hc rfl
  exact ⟨a, b⟩
theorem sg_y {f : Nat → Int32} {L : Nat} {x : Lx} {c : Int32} (h : pk f L x = c) : sg f L c x = (x.1 + 1, false) := if_pos h
theorem sg_n {f : Nat → Int32} {L : Nat} {x : Lx} {c : Int32} (h : ¬ pk f L x = c) : sg f L c x = (x.1, true) := if_neg h
theorem dgX_y {f : Nat → Int32} {L : Nat} {x : Lx} (h : isD (pk f L x) = true) : dgX f L x = (x.1 + 1, x.2) := if_pos h
theorem dgX_n {f : Nat → Int32} {L : Nat} {x : Lx} (h : ¬ isD (pk f L x) = true) : dgX f L x = (x.1, true) := if_neg h
theorem wd_step {f : Nat → Int32} {L : Nat} : ∀ (l : List Int32) (k : Nat) (c : Int32) (x : Lx), l[k]? = some c → wd f L (l.take (k + 1)) x = sg f L c (wd f L (l.take k) x)
  | [], k, c, x, h => by simp at h
  | d :: l, 0, c, x, h => by
    have e : d = c := by simpa using h
    subst e
    rfl
  | d :: l, k + 1, c, x, h => by
    have h2 : l[k]? = some c := by simpa using h
    exact wd_step l k c (sg f L d x) h2
/-- the place stays within the text -/
theorem sg_le {f : Nat → Int32} {L : Nat} {x : Lx} {c : Int32} (hc : ¬ c = 0) (h : x.1 ≤ L) : (sg f L c x).1 ≤ L := by
  unfold sg
  split
  · next z => exact (pk_y hc z).2.1
  · exact h
theorem dgX_le {f : Nat → Int32} {L : Nat} {x : Lx} (h : x.1 ≤ L) : (dgX f L x).1 ≤ L := by
  unfold dgX
  split
  · next z => exact (isD_y z).2
  · exact h
theorem wd_le {f : Nat → Int32} {L : Nat} : ∀ (l : List Int32) {x : Lx}, (∀ c ∈ l, ¬ c = 0) → x.1 ≤ L → (wd f L l x).1 ≤ L
  | [], _, _, h => h
  | d :: l, x, hn, h => wd_le l (fun c hc => hn c (List.mem_cons_of_mem _ hc)) (sg_le (hn d List.mem_cons_self) h)
theorem nmX_le {f : Nat → Int32} {L : Nat} {x : Lx} (h : x.1 ≤ L) : (nmX f L x).1 ≤ L := by
  unfold nmX
  split
  · exact dgX_le (dgX_le h)
  · exact dgX_le h
theorem tlX_le {f : Nat → Int32} {L : Nat} {x : Lx} (h : x.1 ≤ L) : (tlX f L x).1 ≤ L := by
  unfold tlX
  split
  · exact sg_le (by decide) h
  · split <;> exact sg_le (by decide) h
theorem psX_le {f : Nat → Int32} {L : Nat} {x : Lx} (h : x.1 ≤ L) : (psX f L x).1 ≤ L := by
  unfold psX
  split <;> exact sg_le (by decide) h
/-- the commands that were read: what is added behind x -/
def adN (x : Lx) (n : Nat) : Nat := if x.2 = true then n else if n < 13 then n + 1 else n
def adF (x : Lx) (n : Nat) (g : Nat → Int32) (v : Int32) : Nat → Int32 := if x.2 = true then g else if n < 13 then upd g n v else g
theorem adN_le {x : Lx} {n : Nat} (h : n ≤ 13) : adN x n ≤ 13 := by
  unfold adN
  split
  · exact h
  · split <;> omega
abbrev wBath : List Int32 := [98, 97, 116, 104]
abbrev wAp : List Int32 := [97, 112, 32]
abbrev wIck : List Int32 := [105, 99, 107]
abbrev wLug : List Int32 := [108, 117, 103, 32]
abbrev wOur : List Int32 := [111, 117, 114, 32]
abbrev wDuck : List Int32 := [100, 117, 99, 107, 32]
abbrev wJoin : List Int32 := [106, 111, 105, 110, 32]
abbrev wLeave : List Int32 := [108, 101, 97, 118, 101, 32]
/-- a command: the place behind it, its kind and numbers -/
abbrev Cm : Type := Lx × Int32 × Int32 × Int32 × Int32
def tapC (f : Nat → Int32) (L : Nat) (y : Lx) : Cm :=
  if pk f L y = 97 then (nmX f L (sg f L 32 (tlX f L (sg f L 32 (dgX f L (wd f L wAp y))))), 1, dgV f L (wd f L wAp y), tlV f L (sg f L 32 (dgX f L (wd f L wAp y))), nmV f L (sg f L 32 (tlX f L (sg f L 32 (dgX f L (wd f L wAp y))))))
  else if pk f L (wd f L wIck y) = 32 then (nmX f L (sg f L 32 (wd f L wIck y)), 7, nmV f L (sg f L 32 (wd f L wIck y)), 0, 0)
  else (wd f L wIck y, 7, 1, 0, 0)
def pluC (f : Nat → Int32) (L : Nat) (y : Lx) : Cm :=
  if pk f L y = 108 then (psX f L (sg f L 32 (dgX f L (wd f L wLug y))), 2, dgV f L (wd f L wLug y), psV f L (sg f L 32 (dgX f L (wd f L wLug y))), 0)
  else (nmX f L (sg f L 32 (dgX f L (sg f L 32 (dgX f L (wd f L wOur y))))), 3, dgV f L (wd f L wOur y), dgV f L (sg f L 32 (dgX f L (wd f L wOur y))), nmV f L (sg f L 32 (dgX f L (sg f L 32 (dgX f L (wd f L wOur y))))))
def dukC (f : Nat → Int32) (L : Nat) (y : Lx) : Cm :=
  (nmX f L (sg f L 32 (nmX f L (sg f L 32 (dgX f L (wd f L wDuck y))))), 4, dgV f L (wd f L wDuck y), nmV f L (sg f L 32 (dgX f L (wd f L wDuck y))), nmV f L (sg f L 32 (nmX f L (sg f L 32 (dgX f L (wd f L wDuck y))))))
def cmd (f : Nat → Int32) (L : Nat) (x : Lx) : Cm :=
  if pk f L x = 98 then (wd f L wBath x, 0, 0, 0, 0)
  else if pk f L x = 116 then tapC f L (sg f L 116 x)
  else if pk f L x = 112 then pluC f L (sg f L 112 x)
  else if pk f L x = 100 then dukC f L x
  else if pk f L x = 106 then (dgX f L (wd f L wJoin x), 5, dgV f L (wd f L wJoin x), 0, 0)
  else if pk f L x = 108 then (dgX f L (wd f L wLeave x), 6, dgV f L (wd f L wLeave x), 0, 0)
  else ((x.1, true), 0, 0, 0, 0)
/-- the commands: how many, and their four rows -/
abbrev Cs : Type := Nat × (Nat → Int32) × (Nat → Int32) × (Nat → Int32) × (Nat → Int32)
def addC (c : Cm) (s : Cs) : Cs := (adN c.1 s.1, adF c.1 s.1 s.2.1 c.2.1, adF c.1 s.1 s.2.2.1 c.2.2.1, adF c.1 s.1 s.2.2.2.1 c.2.2.2.1, adF c.1 s.1 s.2.2.2.2 c.2.2.2.2)
/-- command after command, at most d of them -/
def lpC (f : Nat → Int32) (L : Nat) : Nat → Lx → Cs → Lx × Cs
  | 0, x, s => (x, s)
  | d + 1, x, s =>
    if (cmd f L x).1.1 < L then (if (sg f L 59 (cmd f L x).1).2 = true then (sg f L 59 (cmd f L x).1, addC (cmd f L x) s) else lpC f L d (sg f L 59 (cmd f L x).1) (addC (cmd f L x) s))
    else ((cmd f L x).1, addC (cmd f L x) s)
theorem bI_0 {b : Bool} (h : b = false) : bI b = 0 := by subst h; rfl
theorem bI_1 {b : Bool} (h : b = true) : ¬ bI b = 0 := by subst h; decide
theorem ltS_nz {i : Nat} (hi : i < 20) : ∀ c ∈ ltS i, ¬ c = 0 := by
  intro c hc
  obtain ⟨k, hk⟩ := List.getElem?_of_mem hc
  have hk2 : k < (ltS i).length := (List.getElem?_eq_some_iff.mp hk).1
  have h := ((chS_ok i hi).2.2 k (by have := (chS_ok i hi).1; show k < lenS.getD i 0; rw [this]; exact hk2)).2.2
  have e : chS i k = c := by
    show (ltS i).getD k 0 = c
    rw [List.getD_eq_getElem?_getD, hk]
    rfl
  rwa [e] at h
theorem ltS_at {i k : Nat} (hi : i < 20) (hk : k < lnS i) : (ltS i)[k]? = some (chS i k) := by
  rw [lnS_eq hi] at hk
  show (ltS i)[k]? = some ((ltS i).getD k 0)
  rw [List.getD_eq_getElem?_getD, List.getElem?_eq_getElem hk]
  rfl
theorem wdt_le {f : Nat → Int32} {L i k : Nat} {x : Lx} (hi : i < 20) (h : x.1 ≤ L) : (wd f L ((ltS i).take k) x).1 ≤ L := wd_le _ (fun c hc => ltS_nz hi c (List.mem_of_mem_take hc)) h
theorem sw4 {v : Int32} (a : ¬ v = 98) (b : ¬ v = 116) (c : ¬ v = 112) (d : ¬ v = 100) (e : ¬ v = 106) (g : ¬ v = 108) : (v.toInt < 98 ∨ 116 < v.toInt) ∨ (¬ v.toInt < 98 ∧ ¬ 116 < v.toInt ∧ (#[92, 183, 135, 183, 183, 183, 183, 183, 142, 183, 162, 183, 183, 183, 122, 183, 183, 183, 109] : Array Int)[(v.toInt - 98).toNat]? = some 183) := by
  rw [← Int32.toInt_inj, show (98 : Int32).toInt = 98 from by decide] at a
  rw [← Int32.toInt_inj, show (116 : Int32).toInt = 116 from by decide] at b
  rw [← Int32.toInt_inj, show (112 : Int32).toInt = 112 from by decide] at c
  rw [← Int32.toInt_inj, show (100 : Int32).toInt = 100 from by decide] at d
  rw [← Int32.toInt_inj, show (106 : Int32).toInt = 106 from by decide] at e
  rw [← Int32.toInt_inj, show (108 : Int32).toInt = 108 from by decide] at g
  generalize v.toInt = z at *
  by_cases h1 : z < 98 ∨ 116 < z
  · exact Or.inl h1
  · refine Or.inr ⟨by omega, by omega, ?_⟩
    have h2 : z = 99 ∨ z = 101 ∨ z = 102 ∨ z = 103 ∨ z = 104 ∨ z = 105 ∨ z = 107 ∨ z = 109 ∨ z = 110 ∨ z = 111 ∨ z = 113 ∨ z = 114 ∨ z = 115 := by omega
    rcases h2 with h | h | h | h | h | h | h | h | h | h | h | h | h <;> subst h <;> rfl
theorem lp_end {f : Nat → Int32} {L d : Nat} {x : Lx} {s : Cs} {R : Lx × Cs} (h : ¬ (cmd f L x).1.1 < L) (hR : lpC f L (d + 1) x s = R) : ((cmd f L x).1, addC (cmd f L x) s) = R := (if_neg h).symm.trans hR
theorem lp_bad {f : Nat → Int32} {L d : Nat} {x : Lx} {s : Cs} {R : Lx × Cs} (h : (cmd f L x).1.1 < L) (h2 : (sg f L 59 (cmd f L x).1).2 = true) (hR : lpC f L (d + 1) x s = R) : (sg f L 59 (cmd f L x).1, addC (cmd f L x) s) = R := ((if_pos h).trans (if_pos h2)).symm.trans hR
theorem lp_go {f : Nat → Int32} {L d : Nat} {x : Lx} {s : Cs} {R : Lx × Cs} (h : (cmd f L x).1.1 < L) (h2 : (sg f L 59 (cmd f L x).1).2 = false) (hR : lpC f L (d + 1) x s = R) : lpC f L d (sg f L 59 (cmd f L x).1) (addC (cmd f L x) s) = R := ((if_pos h).trans (if_neg (by rw [h2]; decide))).symm.trans hR
theorem cmd_le {f : Nat → Int32} {L : Nat} {x : Lx} (h : x.1 ≤ L) : (cmd f L x).1.1 ≤ L := by
  have t1 : ∀ {y : Lx}, y.1 ≤ L → (tapC f L y).1.1 ≤ L := by
    intro y hy
    unfold tapC
    split
    · dsimp only; exact nmX_le (sg_le (by decide) (tlX_le (sg_le (by decide) (dgX_le (wd_le _ (by decide) hy)))))
    · split
      · dsimp only; exact nmX_le (sg_le (by decide) (wd_le _ (by decide) hy))
      · dsimp only; exact wd_le _ (by decide) hy
  have t2 : ∀ {y : Lx}, y.1 ≤ L → (pluC f L y).1.1 ≤ L := by
    intro y hy
    unfold pluC
    split
    · dsimp only; exact psX_le (sg_le (by decide) (dgX_le (wd_le _ (by decide) hy)))
    · dsimp only; exact nmX_le (sg_le (by decide) (dgX_le (sg_le (by decide) (dgX_le (wd_le _ (by decide) hy)))))
  unfold cmd
  split
  · dsimp only; exact wd_le _ (by decide) h
  · split
    · exact t1 (sg_le (by decide) h)
    · split
      · exact t2 (sg_le (by decide) h)
      · split
        · unfold dukC; dsimp only; exact nmX_le (sg_le (by decide) (nmX_le (sg_le (by decide) (dgX_le (wd_le _ (by decide) h)))))
        · split
          · dsimp only; exact dgX_le (wd_le _ (by decide) h)
          · split
            · dsimp only; exact dgX_le (wd_le _ (by decide) h)
            · exact h
set_option maxRecDepth 100000 in
set_option maxHeartbeats 1000000 in
theorem c_X4_peek (l : Launch) (G : va_G) (cy : Nat → ClassId) (sc tx kd fs sd td LN n : Nat) (x : Lx) (f : Nat → Int32) (hL : LN ≤ 60) (hx : x.1 ≤ LN) (hcz : czN 60 f) : RO l yX4_peek wsX4_peek { frames := 0, cells := 0, slots := 0, locals := 0 } (PB G cy [(sc, .inr (8, [.ref tx, .int (nI LN), .int (nI x.1), .int (bI x.2), .int (nI n), .ref kd, .ref fs, .ref sd, .ref td])), (tx, .inl (cy 1, 60, .inl f))]) [.ref sc] (some (.int (pk f LN x))) := by
  refine RO.ofW (cc := cX4_peek) (maxL := 1) (ret := (some .char)) (by decide) rfl (Nat.le_of_ble_eq_true rfl) ?_
  intro p e s m below meth cq S9 hr hlocks hPB ls hl
  obtain ⟨hxq, hb, hml, hown, hts⟩ := id S9
  obtain ⟨hP, hK⟩ := hPB
  have hl : lv_has ls 1 [(0, .ref sc)] := hl
  have hi8 : ∀ w ∈ wsX40, w ∈ wsX4_peek := by decide +kernel
  have hf9 := hts (.fieldLink RX4 9 "BathLeague$Script" "text" "[C") (by decide +kernel)
  have hf15 := hts (.fieldLink RX4 15 "BathLeague$Script" "length" "I") (by decide +kernel)
  have hf19 := hts (.fieldLink RX4 19 "BathLeague$Script" "position" "I") (by decide +kernel)
  have hf22 := hts (.fieldLink RX4 22 "BathLeague$Script" "malformed" "Z") (by decide +kernel)
  refine lv_aload_n hxq hb dX4_peek_0 rfl (lv_at hl 0 rfl) ?_
  refine va_get (D := G) (ci := 8) (v := .int (bI x.2)) (C := RX4) (T := TX4) (N := 9) hxq hb hts hi8 hown hK.1 hP 0 rfl rfl 3 (by decide) hf22 (fun _ h9 => h9) rfl dX4_peek_1 ?_
  refine lv_if_ne (tgt := 30) hxq hb dX4_peek_4 (by decide) (fun c_1 => ?_) (fun c_1 => ?_)
  · have z_2 : x.2 = true := bI_t c_1
    refine lv_iconst (v := 0) hxq hb dX4_peek_30 (by decide) ?_
    exact ro_zret hxq hb hr hlocks (congrArg Value.int (pk_c hcz hL)) (by unfold pk; simp [z_2]) dX4_peek_31
  · have z_3 : x.2 = false := bI_f c_1
    refine lv_aload_n hxq hb dX4_peek_7 rfl (lv_at hl 0 rfl) ?_
    refine va_get (D := G) (ci := 8) (v := .int (nI x.1)) (C := RX4) (T := TX4) (N := 9) hxq hb hts hi8 hown hK.1 hP 0 rfl rfl 2 (by decide) hf19 (fun _ h9 => h9) rfl dX4_peek_8 ?_
    refine lv_aload_n hxq hb dX4_peek_11 rfl (lv_at hl 0 rfl) ?_
    refine va_get (D := G) (ci := 8) (v := .int (nI LN)) (C := RX4) (T := TX4) (N := 9) hxq hb hts hi8 hown hK.1 hP 0 rfl rfl 1 (by decide) hf15 (fun _ h9 => h9) rfl dX4_peek_12 ?_
    refine lv_icmp_ge (tgt := 30) hxq hb dX4_peek_15 (by decide) (fun c_4 => ?_) (fun c_4 => ?_)
    · have k_5 : LN ≤ x.1 := (m_leN (a := LN) (b := x.1) rfl rfl (by omega) (by omega)).mp c_4
      have k_5' : ¬ (x.1 < LN) := by omega
      refine lv_iconst (v := 0) hxq hb dX4_peek_30 (by decide) ?_
      exact ro_zret hxq hb hr hlocks (congrArg Value.int (pk_c hcz hL)) (by unfold pk; simp [z_3, k_5', k_5]) dX4_peek_31
    · have k_6 : ¬ (LN ≤ x.1) := fun z => c_4 ((m_leN (a := LN) (b := x.1) rfl rfl (by omega) (by omega)).mpr z)
      have k_6' : x.1 < LN := by omega
      refine lv_aload_n hxq hb dX4_peek_18 rfl (lv_at hl 0 rfl) ?_
      refine va_get (D := G) (ci := 8) (v := .ref tx) (C := RX4) (T := TX4) (N := 9) hxq hb hts hi8 hown hK.1 hP 0 rfl rfl 0 (by decide) hf9 (fun _ h9 => h9) rfl dX4_peek_19 ?_
      refine lv_aload_n hxq hb dX4_peek_22 rfl (lv_at hl 0 rfl) ?_
      refine va_get (D := G) (ci := 8) (v := .int (nI x.1)) (C := RX4) (T := TX4) (N := 9) hxq hb hts hi8 hown hK.1 hP 0 rfl rfl 2 (by decide) hf19 (fun _ h9 => h9) rfl dX4_peek_23 ?_
      refine m_cald hxq hb hK hP 1 (k := x.1) rfl rfl (by omega) (Nat.le_of_ble_eq_true rfl) dX4_peek_26 ?_
      refine lv_goto (tgt := 31) hxq hb dX4_peek_27 (by decide) ?_
      exact ro_zret hxq hb hr hlocks (congrArg Value.int (pk_c hcz hL)) (by unfold pk; simp [z_3, k_6', k_6]) dX4_peek_31

set_option maxRecDepth 100000 in
set_option maxHeartbeats 1000000 in
theorem c_X4_isDigit (l : Launch) (G : va_G) (cy : Nat → ClassId) (c : Int32) : RO l yX4_isDigit wsX4_isDigit { frames := 0, cells := 0, slots := 0, locals := 0 } (PB G cy []) [.int c] (some (.int (if isD c = true then 1 else 0))) := by
  refine RO.ofW (cc := cX4_isDigit) (maxL := 1) (ret := (some .boolean)) (by decide) rfl (Nat.le_of_ble_eq_true rfl) ?_
  intro p e s m below meth cq S9 hr hlocks hPB ls hl
  obtain ⟨hxq, hb, hml, hown, hts⟩ := id S9
  obtain ⟨hP, hK⟩ := hPB
  have hl : lv_has ls 1 [(0, .int c)] := hl
  refine lv_iload_n hxq hb dX4_isDigit_0 rfl (lv_at hl 0 rfl) ?_
  refine lv_bipush (v := 48) hxq hb dX4_isDigit_1 (by decide) ?_
  refine lv_icmp_lt (tgt := 16) hxq hb dX4_isDigit_3 (by decide) (fun c_1 => ?_) (fun c_1 => ?_)
  · have c_1' : ¬ 48 ≤ c := Int32.not_le.mpr c_1
    refine lv_iconst (v := 0) hxq hb dX4_isDigit_16 (by decide) ?_
    exact ro_zret hxq hb hr hlocks (by first | rfl | (split <;> rfl)) (by simp [isD, inR, c_1', c_1]) dX4_isDigit_17
  · have c_1' : 48 ≤ c := Int32.not_lt.mp c_1
    refine lv_iload_n hxq hb dX4_isDigit_6 rfl (lv_at hl 0 rfl) ?_
    refine lv_bipush (v := 57) hxq hb dX4_isDigit_7 (by decide) ?_
    refine lv_icmp_gt (tgt := 16) hxq hb dX4_isDigit_9 (by decide) (fun c_2 => ?_) (fun c_2 => ?_)
    · have c_2' : ¬ c ≤ 57 := Int32.not_le.mpr c_2
      refine lv_iconst (v := 0) hxq hb dX4_isDigit_16 (by decide) ?_
      exact ro_zret hxq hb hr hlocks (by first | rfl | (split <;> rfl)) (by simp [isD, inR, c_1', c_1, c_2', c_2]) dX4_isDigit_17
    · have c_2' : c ≤ 57 := Int32.not_lt.mp c_2
      refine lv_iconst (v := 1) hxq hb dX4_isDigit_12 (by decide) ?_
      refine lv_goto (tgt := 17) hxq hb dX4_isDigit_13 (by decide) ?_
      exact ro_zret hxq hb hr hlocks (by first | rfl | (split <;> rfl)) (by simp [isD, inR, c_1', c_1, c_2', c_2]) dX4_isDigit_17

set_option maxRecDepth 100000 in
set_option maxHeartbeats 1000000 in
theorem c_X4_readSign (l : Launch) (G : va_G) (cy : Nat → ClassId) (sc tx kd fs sd td LN n : Nat) (x : Lx) (f : Nat → Int32) (c : Int32) (hL : LN ≤ 60) (hx : x.1 ≤ LN) (hcz : czN 60 f) (hc : ¬ c = 0) : WC l yX4_readSign wsX4_readSign { frames := 1, cells := 0, slots := 0, locals := 20 } G (PB G cy [(sc, .inr (8, [.ref tx, .int (nI LN), .int (nI x.1), .int (bI x.2), .int (nI n), .ref kd, .ref fs, .ref sd, .ref td])), (tx, .inl (cy 1, 60, .inl f))]) [.ref sc, .int c] [(sc, .inr (8, [.ref tx, .int (nI LN), .int (nI x.1), .int (bI x.2), .int (nI n), .ref kd, .ref fs, .ref sd, .ref td])), (tx, .inl (cy 1, 60, .inl f))] [(sc, .inr (8, [.ref tx, .int (nI LN), .int (nI ((sg f LN c x).1)), .int (bI (sg f LN c x).2), .int (nI n), .ref kd, .ref fs, .ref sd, .ref td])), (tx, .inl (cy 1, 60, .inl f))] (none) := by
  refine WC.ofW (cc := cX4_readSign) (maxL := 2) (ret := none) (by decide) rfl (Nat.le_of_ble_eq_true rfl) ?_
  intro p e s m below meth cq S9 hr hlocks hPB hD hS ls hl
  obtain ⟨hxq, hb, hml, hown, hts⟩ := id S9
  obtain ⟨hP, hK⟩ := hPB
  have hl : lv_has ls 2 [(0, .ref sc), (1, .int c)] := hl
  have hi8 : ∀ w ∈ wsX40, w ∈ wsX4_readSign := by decide +kernel
  have hf19 := hts (.fieldLink RX4 19 "BathLeague$Script" "position" "I") (by decide +kernel)
  have hf22 := hts (.fieldLink RX4 22 "BathLeague$Script" "malformed" "Z") (by decide +kernel)
  refine lv_aload_n hxq hb dX4_readSign_0 rfl (lv_at hl 0 rfl) ?_
  refine c_roVi S9 (c_X4_peek l G cy sc tx kd fs sd td LN n x f hL hx hcz) (cwV 0 hts gX4_readSign_X4_peek rfl rfl rfl (by decide +kernel) ⟨Nat.le_of_ble_eq_true rfl, Nat.le_of_ble_eq_true rfl⟩) PB.blind (va_recv hK.1 hP (ci := 8) (q0 := 0) rfl rfl) (PB.at hK (m_Ppart hP [0, 1] rfl)) rfl hl.1 rfl (Nat.le_of_ble_eq_true rfl) ⟨Nat.zero_le _, Nat.zero_le _⟩ dX4_readSign_1 ?_
  refine lv_iload_n hxq hb dX4_readSign_4 rfl (lv_at hl 1 rfl) ?_
  refine lv_icmp_eq (tgt := 13) hxq hb dX4_readSign_5 (by decide) (fun c_1 => ?_) (fun c_1 => ?_)
  · refine lv_aload_n hxq hb dX4_readSign_13 rfl (lv_at hl 0 rfl) ?_
    refine va_get (D := G) (ci := 8) (v := .int (bI x.2)) (C := RX4) (T := TX4) (N := 9) hxq hb hts hi8 hown hK.1 hP 0 rfl rfl 3 (by decide) hf22 (fun _ h9 => h9) rfl dX4_readSign_14 ?_
    refine lv_if_ne (tgt := 30) hxq hb dX4_readSign_17 (by decide) (fun c_2 => ?_) (fun c_2 => ?_)
    · exact absurd (bI_0 (pk_y hc c_1).1) c_2
    · refine lv_aload_n hxq hb dX4_readSign_20 rfl (lv_at hl 0 rfl) ?_
      refine lv_dup hxq hb dX4_readSign_21 rfl ?_
      refine va_get (D := G) (ci := 8) (v := .int (nI x.1)) (C := RX4) (T := TX4) (N := 9) hxq hb hts hi8 hown hK.1 hP 0 rfl rfl 2 (by decide) hf19 (fun _ h9 => h9) rfl dX4_readSign_22 ?_
      refine lv_iconst (v := 1) hxq hb dX4_readSign_25 (by decide) ?_
      refine lv_iadd hxq hb dX4_readSign_26 ?_
      refine lv_t0 (show (nI x.1) + 1 = nI (x.1 + 1) from (m_add rfl rfl)) ?_
      refine va_put (D := G) (ci := 8) (v := .int (nI (x.1 + 1))) (ty := .int) (C := RX4) (T := TX4) (N := 9) hxq hb hts hi8 tyX4 tyX4_ok nmX4 hown hK.1 hP hD hS 0 rfl rfl 2 (by decide) hf19 (fun _ h9 => h9) rfl (by decide +kernel) rfl rfl (Nat.le_of_ble_eq_true rfl) dX4_readSign_27 (fun H locs hP hD hS => ?_)
      have hP : va_P G vwCl [(sc, .inr (8, [.ref tx, .int (nI LN), .int (nI (x.1 + 1)), .int (bI x.2), .int (nI n), .ref kd, .ref fs, .ref sd, .ref td])), (tx, .inl (cy 1, 60, .inl f))] H := hP
      have hD : va_D (wA [(sc, .inr (8, [.ref tx, .int (nI LN), .int (nI x.1), .int (bI x.2), .int (nI n), .ref kd, .ref fs, .ref sd, .ref td])), (tx, .inl (cy 1, 60, .inl f))]) [(sc, .inr (8, [.ref tx, .int (nI LN), .int (nI (x.1 + 1)), .int (bI x.2), .int (nI n), .ref kd, .ref fs, .ref sd, .ref td])), (tx, .inl (cy 1, 60, .inl f))] := hD
      have e1 : sg f LN c x = (x.1 + 1, false) := sg_y c_1
      have e2 : bI x.2 = bI false := by rw [(pk_y hc c_1).1]
      rw [e2] at hP
      exact wc_vret hxq hb hr hlocks (by rw [e1]; exact hP) hS dX4_readSign_30
  · refine lv_aload_n hxq hb dX4_readSign_8 rfl (lv_at hl 0 rfl) ?_
    refine lv_iconst (v := 1) hxq hb dX4_readSign_9 (by decide) ?_
    refine va_put (D := G) (ci := 8) (v := .int 1) (ty := .boolean) (C := RX4) (T := TX4) (N := 9) hxq hb hts hi8 tyX4 tyX4_ok nmX4 hown hK.1 hP hD hS 0 rfl rfl 3 (by decide) hf22 (fun _ h9 => h9) rfl (by decide +kernel) rfl rfl (Nat.le_of_ble_eq_true rfl) dX4_readSign_10 (fun H locs hP hD hS => ?_)
    have hP : va_P G vwCl [(sc, .inr (8, [.ref tx, .int (nI LN), .int (nI x.1), .int 1, .int (nI n), .ref kd, .ref fs, .ref sd, .ref td])), (tx, .inl (cy 1, 60, .inl f))] H := hP
    have hD : va_D (wA [(sc, .inr (8, [.ref tx, .int (nI LN), .int (nI x.1), .int (bI x.2), .int (nI n), .ref kd, .ref fs, .ref sd, .ref td])), (tx, .inl (cy 1, 60, .inl f))]) [(sc, .inr (8, [.ref tx, .int (nI LN), .int (nI x.1), .int 1, .int (nI n), .ref kd, .ref fs, .ref sd, .ref td])), (tx, .inl (cy 1, 60, .inl f))] := hD
    refine lv_aload_n hxq hb dX4_readSign_13 rfl (lv_at hl 0 rfl) ?_
    refine va_get (D := G) (ci := 8) (v := .int 1) (C := RX4) (T := TX4) (N := 9) hxq hb hts hi8 hown hK.1 hP 0 rfl rfl 3 (by decide) hf22 (fun _ h9 => h9) rfl dX4_readSign_14 ?_
    refine lv_if_ne (tgt := 30) hxq hb dX4_readSign_17 (by decide) (fun c_3 => ?_) (fun c_3 => ?_)
    · have e1 : sg f LN c x = (x.1, true) := sg_n c_1
      exact wc_vret hxq hb hr hlocks (by rw [e1]; exact hP) hS dX4_readSign_30
    · exact absurd c_3 (by decide)

set_option maxRecDepth 100000 in
set_option maxHeartbeats 1000000 in
theorem c_X4_readDigit (l : Launch) (G : va_G) (cy : Nat → ClassId) (sc tx kd fs sd td LN n : Nat) (x : Lx) (f : Nat → Int32) (hL : LN ≤ 60) (hx : x.1 ≤ LN) (hcz : czN 60 f) : WC l yX4_readDigit wsX4_readDigit { frames := 1, cells := 0, slots := 0, locals := 20 } G (PB G cy [(sc, .inr (8, [.ref tx, .int (nI LN), .int (nI x.1), .int (bI x.2), .int (nI n), .ref kd, .ref fs, .ref sd, .ref td])), (tx, .inl (cy 1, 60, .inl f))]) [.ref sc] [(sc, .inr (8, [.ref tx, .int (nI LN), .int (nI x.1), .int (bI x.2), .int (nI n), .ref kd, .ref fs, .ref sd, .ref td])), (tx, .inl (cy 1, 60, .inl f))] [(sc, .inr (8, [.ref tx, .int (nI LN), .int (nI ((dgX f LN x).1)), .int (bI (dgX f LN x).2), .int (nI n), .ref kd, .ref fs, .ref sd, .ref td])), (tx, .inl (cy 1, 60, .inl f))] (some (.int (dgV f LN x))) := by
  refine WC.ofW (cc := cX4_readDigit) (maxL := 2) (ret := (some .int)) (by decide) rfl (Nat.le_of_ble_eq_true rfl) ?_
  intro p e s m below meth cq S9 hr hlocks hPB hD hS ls hl
  obtain ⟨hxq, hb, hml, hown, hts⟩ := id S9
  obtain ⟨hP, hK⟩ := hPB
  have hl : lv_has ls 2 [(0, .ref sc)] := hl
  have hi8 : ∀ w ∈ wsX40, w ∈ wsX4_readDigit := by decide +kernel
  have hf19 := hts (.fieldLink RX4 19 "BathLeague$Script" "position" "I") (by decide +kernel)
  have hf22 := hts (.fieldLink RX4 22 "BathLeague$Script" "malformed" "Z") (by decide +kernel)
  refine lv_aload_n hxq hb dX4_readDigit_0 rfl (lv_at hl 0 rfl) ?_
  refine c_roVi S9 (c_X4_peek l G cy sc tx kd fs sd td LN n x f hL hx hcz) (cwV 0 hts gX4_readDigit_X4_peek rfl rfl rfl (by decide +kernel) ⟨Nat.le_of_ble_eq_true rfl, Nat.le_of_ble_eq_true rfl⟩) PB.blind (va_recv hK.1 hP (ci := 8) (q0 := 0) rfl rfl) (PB.at hK (m_Ppart hP [0, 1] rfl)) rfl hl.1 rfl (Nat.le_of_ble_eq_true rfl) ⟨Nat.zero_le _, Nat.zero_le _⟩ dX4_readDigit_1 ?_
  refine lv_istore_n (lv' := [(1, .int (pk f LN x)), (0, .ref sc)]) hxq hb dX4_readDigit_4 rfl hl (by decide) rfl (fun ls hl => ?_)
  refine lv_iload_n hxq hb dX4_readDigit_5 rfl (lv_at hl 0 rfl) ?_
  refine c_roSi S9 (c_X4_isDigit l G cy (pk f LN x)) (va_cwS 1 hts gX4_readDigit_X4_isDigit rfl rfl rfl (by decide +kernel) ⟨Nat.le_of_ble_eq_true rfl, Nat.le_of_ble_eq_true rfl⟩) PB.blind (PB.at hK (m_Ppart hP [] rfl)) rfl hl.1 rfl (Nat.le_of_ble_eq_true rfl) ⟨Nat.zero_le _, Nat.zero_le _⟩ dX4_readDigit_6 ?_
  refine lv_if_ne (tgt := 19) hxq hb dX4_readDigit_9 (by decide) (fun c_1 => ?_) (fun c_1 => ?_)
  · have b_2 : isD (pk f LN x) = true := m_ite1.mp c_1
    refine lv_aload_n hxq hb dX4_readDigit_19 rfl (lv_at hl 1 rfl) ?_
    refine lv_dup hxq hb dX4_readDigit_20 rfl ?_
    refine va_get (D := G) (ci := 8) (v := .int (nI x.1)) (C := RX4) (T := TX4) (N := 9) hxq hb hts hi8 hown hK.1 hP 0 rfl rfl 2 (by decide) hf19 (fun _ h9 => h9) rfl dX4_readDigit_21 ?_
    refine lv_iconst (v := 1) hxq hb dX4_readDigit_24 (by decide) ?_
    refine lv_iadd hxq hb dX4_readDigit_25 ?_
    refine lv_t0 (show (nI x.1) + 1 = nI (x.1 + 1) from (m_add rfl rfl)) ?_
    refine va_put (D := G) (ci := 8) (v := .int (nI (x.1 + 1))) (ty := .int) (C := RX4) (T := TX4) (N := 9) hxq hb hts hi8 tyX4 tyX4_ok nmX4 hown hK.1 hP hD hS 0 rfl rfl 2 (by decide) hf19 (fun _ h9 => h9) rfl (by decide +kernel) rfl rfl (Nat.le_of_ble_eq_true rfl) dX4_readDigit_26 (fun H locs hP hD hS => ?_)
    have hP : va_P G vwCl [(sc, .inr (8, [.ref tx, .int (nI LN), .int (nI (x.1 + 1)), .int (bI x.2), .int (nI n), .ref kd, .ref fs, .ref sd, .ref td])), (tx, .inl (cy 1, 60, .inl f))] H := hP
    have hD : va_D (wA [(sc, .inr (8, [.ref tx, .int (nI LN), .int (nI x.1), .int (bI x.2), .int (nI n), .ref kd, .ref fs, .ref sd, .ref td])), (tx, .inl (cy 1, 60, .inl f))]) [(sc, .inr (8, [.ref tx, .int (nI LN), .int (nI (x.1 + 1)), .int (bI x.2), .int (nI n), .ref kd, .ref fs, .ref sd, .ref td])), (tx, .inl (cy 1, 60, .inl f))] := hD
    refine lv_iload_n hxq hb dX4_readDigit_29 rfl (lv_at hl 0 rfl) ?_
    refine lv_bipush (v := 48) hxq hb dX4_readDigit_30 (by decide) ?_
    refine lv_isub hxq hb dX4_readDigit_32 ?_
    exact wc_iret hxq hb hr hlocks (by rw [dgX_y b_2]; exact hP) hS (if_pos b_2).symm dX4_readDigit_33
  · have b_3 : ¬ (isD (pk f LN x) = true) := m_ite0.mp c_1
    refine lv_aload_n hxq hb dX4_readDigit_12 rfl (lv_at hl 1 rfl) ?_
    refine lv_iconst (v := 1) hxq hb dX4_readDigit_13 (by decide) ?_
    refine va_put (D := G) (ci := 8) (v := .int 1) (ty := .boolean) (C := RX4) (T := TX4) (N := 9) hxq hb hts hi8 tyX4 tyX4_ok nmX4 hown hK.1 hP hD hS 0 rfl rfl 3 (by decide) hf22 (fun _ h9 => h9) rfl (by decide +kernel) rfl rfl (Nat.le_of_ble_eq_true rfl) dX4_readDigit_14 (fun H locs hP hD hS => ?_)
    have hP : va_P G vwCl [(sc, .inr (8, [.ref tx, .int (nI LN), .int (nI x.1), .int 1, .int (nI n), .ref kd, .ref fs, .ref sd, .ref td])), (tx, .inl (cy 1, 60, .inl f))] H := hP
    have hD : va_D (wA [(sc, .inr (8, [.ref tx, .int (nI LN), .int (nI x.1), .int (bI x.2), .int (nI n), .ref kd, .ref fs, .ref sd, .ref td])), (tx, .inl (cy 1, 60, .inl f))]) [(sc, .inr (8, [.ref tx, .int (nI LN), .int (nI x.1), .int 1, .int (nI n), .ref kd, .ref fs, .ref sd, .ref td])), (tx, .inl (cy 1, 60, .inl f))] := hD
    refine lv_iconst (v := 0) hxq hb dX4_readDigit_17 (by decide) ?_
    exact wc_iret hxq hb hr hlocks (by rw [dgX_n b_3]; exact hP) hS (if_neg b_3).symm dX4_readDigit_18

set_option maxRecDepth 100000 in
set_option maxHeartbeats 1000000 in
theorem c_X4_readNumber (l : Launch) (G : va_G) (cy : Nat → ClassId) (sc tx kd fs sd td LN n : Nat) (x : Lx) (f : Nat → Int32) (hL : LN ≤ 60) (hx : x.1 ≤ LN) (hcz : czN 60 f) : WC l yX4_readNumber wsX4_readNumber { frames := 2, cells := 0, slots := 0, locals := 41 } G (PB G cy [(sc, .inr (8, [.ref tx, .int (nI LN), .int (nI x.1), .int (bI x.2), .int (nI n), .ref kd, .ref fs, .ref sd, .ref td])), (tx, .inl (cy 1, 60, .inl f))]) [.ref sc] [(sc, .inr (8, [.ref tx, .int (nI LN), .int (nI x.1), .int (bI x.2), .int (nI n), .ref kd, .ref fs, .ref sd, .ref td])), (tx, .inl (cy 1, 60, .inl f))] [(sc, .inr (8, [.ref tx, .int (nI LN), .int (nI ((nmX f LN x).1)), .int (bI (nmX f LN x).2), .int (nI n), .ref kd, .ref fs, .ref sd, .ref td])), (tx, .inl (cy 1, 60, .inl f))] (some (.int (nmV f LN x))) := by
  refine WC.ofW (cc := cX4_readNumber) (maxL := 2) (ret := (some .int)) (by decide) rfl (Nat.le_of_ble_eq_true rfl) ?_
  intro p e s m below meth cq S9 hr hlocks hPB hD hS ls hl
  obtain ⟨hxq, hb, hml, hown, hts⟩ := id S9
  obtain ⟨hP, hK⟩ := hPB
  have hl : lv_has ls 2 [(0, .ref sc)] := hl
  refine lv_aload_n hxq hb dX4_readNumber_0 rfl (lv_at hl 0 rfl) ?_
  refine c_wcVi (ws' := [(sc, .inr (8, [.ref tx, .int (nI LN), .int (nI ((dgX f LN x).1)), .int (bI (dgX f LN x).2), .int (nI n), .ref kd, .ref fs, .ref sd, .ref td])), (tx, .inl (cy 1, 60, .inl f))]) S9 (c_X4_readDigit l G cy sc tx kd fs sd td LN n x f hL hx hcz) (cwV 0 hts gX4_readNumber_X4_readDigit rfl rfl rfl (by decide +kernel) ⟨Nat.le_of_ble_eq_true rfl, Nat.le_of_ble_eq_true rfl⟩) PB.blind (va_recv hK.1 hP (ci := 8) (q0 := 0) rfl rfl) (PB.at hK (m_Ppart hP [0, 1] rfl)) hP hD hS [0, 1] rfl rfl m_f2 rfl rfl hl.1 rfl (Nat.le_of_ble_eq_true rfl) ⟨Nat.zero_le _, Nat.zero_le _⟩ dX4_readNumber_1 (fun H locs hP hD hS => ?_)
  refine lv_istore_n (lv' := [(1, .int (dgV f LN x)), (0, .ref sc)]) hxq hb dX4_readNumber_4 rfl hl (by decide) rfl (fun ls hl => ?_)
  refine lv_aload_n hxq hb dX4_readNumber_5 rfl (lv_at hl 1 rfl) ?_
  refine c_roVi S9 (c_X4_peek l G cy sc tx kd fs sd td LN n (dgX f LN x) f hL (dgX_le hx) hcz) (cwV 0 hts gX4_readNumber_X4_peek rfl rfl rfl (by decide +kernel) ⟨Nat.le_of_ble_eq_true rfl, Nat.le_of_ble_eq_true rfl⟩) PB.blind (va_recv hK.1 hP (ci := 8) (q0 := 0) rfl rfl) (PB.at hK (m_Ppart hP [0, 1] rfl)) rfl hl.1 rfl (Nat.le_of_ble_eq_true rfl) ⟨Nat.zero_le _, Nat.zero_le _⟩ dX4_readNumber_6 ?_
  refine c_roSi S9 (c_X4_isDigit l G cy (pk f LN (dgX f LN x))) (va_cwS 1 hts gX4_readNumber_X4_isDigit rfl rfl rfl (by decide +kernel) ⟨Nat.le_of_ble_eq_true rfl, Nat.le_of_ble_eq_true rfl⟩) PB.blind (PB.at hK (m_Ppart hP [] rfl)) rfl hl.1 rfl (Nat.le_of_ble_eq_true rfl) ⟨Nat.zero_le _, Nat.zero_le _⟩ dX4_readNumber_9 ?_
  refine lv_if_eq (tgt := 27) hxq hb dX4_readNumber_12 (by decide) (fun c_1 => ?_) (fun c_1 => ?_)
  · have b_2 : ¬ (isD (pk f LN (dgX f LN x)) = true) := m_ite0.mp c_1
    refine lv_iload_n hxq hb dX4_readNumber_27 rfl (lv_at hl 0 rfl) ?_
    exact wc_iret hxq hb hr hlocks (by rw [show nmX f LN x = (dgX f LN x) from if_neg b_2]; exact hP) hS (if_neg b_2).symm dX4_readNumber_28
  · have b_3 : isD (pk f LN (dgX f LN x)) = true := m_ite1.mp c_1
    refine lv_bipush (v := 10) hxq hb dX4_readNumber_15 (by decide) ?_
    refine lv_iload_n hxq hb dX4_readNumber_17 rfl (lv_at hl 0 rfl) ?_
    refine lv_imul hxq hb dX4_readNumber_18 ?_
    refine lv_aload_n hxq hb dX4_readNumber_19 rfl (lv_at hl 1 rfl) ?_
    refine c_wcVi (ws' := [(sc, .inr (8, [.ref tx, .int (nI LN), .int (nI ((dgX f LN (dgX f LN x)).1)), .int (bI (dgX f LN (dgX f LN x)).2), .int (nI n), .ref kd, .ref fs, .ref sd, .ref td])), (tx, .inl (cy 1, 60, .inl f))]) S9 (c_X4_readDigit l G cy sc tx kd fs sd td LN n (dgX f LN x) f hL (dgX_le hx) hcz) (cwV 0 hts gX4_readNumber_X4_readDigit rfl rfl rfl (by decide +kernel) ⟨Nat.le_of_ble_eq_true rfl, Nat.le_of_ble_eq_true rfl⟩) PB.blind (va_recv hK.1 hP (ci := 8) (q0 := 0) rfl rfl) (PB.at hK (m_Ppart hP [0, 1] rfl)) hP hD hS [0, 1] rfl rfl m_f2 rfl rfl hl.1 rfl (Nat.le_of_ble_eq_true rfl) ⟨Nat.zero_le _, Nat.zero_le _⟩ dX4_readNumber_20 (fun H locs hP hD hS => ?_)
    refine lv_iadd hxq hb dX4_readNumber_23 ?_
    refine lv_goto (tgt := 28) hxq hb dX4_readNumber_24 (by decide) ?_
    exact wc_iret hxq hb hr hlocks (by rw [show nmX f LN x = (dgX f LN (dgX f LN x)) from if_pos b_3]; exact hP) hS (if_pos b_3).symm dX4_readNumber_28

set_option maxRecDepth 100000 in
set_option maxHeartbeats 1000000 in
theorem c_X4_readTapLetter (l : Launch) (G : va_G) (cy : Nat → ClassId) (sc tx kd fs sd td LN n : Nat) (x : Lx) (f : Nat → Int32) (hL : LN ≤ 60) (hx : x.1 ≤ LN) (hcz : czN 60 f) : WC l yX4_readTapLetter wsX4_readTapLetter { frames := 2, cells := 0, slots := 0, locals := 41 } G (PB G cy [(sc, .inr (8, [.ref tx, .int (nI LN), .int (nI x.1), .int (bI x.2), .int (nI n), .ref kd, .ref fs, .ref sd, .ref td])), (tx, .inl (cy 1, 60, .inl f))]) [.ref sc] [(sc, .inr (8, [.ref tx, .int (nI LN), .int (nI x.1), .int (bI x.2), .int (nI n), .ref kd, .ref fs, .ref sd, .ref td])), (tx, .inl (cy 1, 60, .inl f))] [(sc, .inr (8, [.ref tx, .int (nI LN), .int (nI ((tlX f LN x).1)), .int (bI (tlX f LN x).2), .int (nI n), .ref kd, .ref fs, .ref sd, .ref td])), (tx, .inl (cy 1, 60, .inl f))] (some (.int (tlV f LN x))) := by
  refine WC.ofW (cc := cX4_readTapLetter) (maxL := 2) (ret := (some .int)) (by decide) rfl (Nat.le_of_ble_eq_true rfl) ?_
  intro p e s m below meth cq S9 hr hlocks hPB hD hS ls hl
  obtain ⟨hxq, hb, hml, hown, hts⟩ := id S9
  obtain ⟨hP, hK⟩ := hPB
  have hl : lv_has ls 2 [(0, .ref sc)] := hl
  refine lv_aload_n hxq hb dX4_readTapLetter_0 rfl (lv_at hl 0 rfl) ?_
  refine c_roVi S9 (c_X4_peek l G cy sc tx kd fs sd td LN n x f hL hx hcz) (cwV 0 hts gX4_readTapLetter_X4_peek rfl rfl rfl (by decide +kernel) ⟨Nat.le_of_ble_eq_true rfl, Nat.le_of_ble_eq_true rfl⟩) PB.blind (va_recv hK.1 hP (ci := 8) (q0 := 0) rfl rfl) (PB.at hK (m_Ppart hP [0, 1] rfl)) rfl hl.1 rfl (Nat.le_of_ble_eq_true rfl) ⟨Nat.zero_le _, Nat.zero_le _⟩ dX4_readTapLetter_1 ?_
  refine lv_istore_n (lv' := [(1, .int (pk f LN x)), (0, .ref sc)]) hxq hb dX4_readTapLetter_4 rfl hl (by decide) rfl (fun ls hl => ?_)
  refine lv_iload_n hxq hb dX4_readTapLetter_5 rfl (lv_at hl 0 rfl) ?_
  refine lv_bipush (v := 99) hxq hb dX4_readTapLetter_6 (by decide) ?_
  refine lv_icmp_ne (tgt := 19) hxq hb dX4_readTapLetter_8 (by decide) (fun c_1 => ?_) (fun c_1 => ?_)
  · refine lv_iload_n hxq hb dX4_readTapLetter_19 rfl (lv_at hl 0 rfl) ?_
    refine lv_bipush (v := 119) hxq hb dX4_readTapLetter_20 (by decide) ?_
    refine lv_icmp_ne (tgt := 33) hxq hb dX4_readTapLetter_22 (by decide) (fun c_2 => ?_) (fun c_2 => ?_)
    · refine lv_aload_n hxq hb dX4_readTapLetter_33 rfl (lv_at hl 1 rfl) ?_
      refine lv_bipush (v := 104) hxq hb dX4_readTapLetter_34 (by decide) ?_
      refine c_wcVv (ws' := [(sc, .inr (8, [.ref tx, .int (nI LN), .int (nI ((sg f LN 104 x).1)), .int (bI (sg f LN 104 x).2), .int (nI n), .ref kd, .ref fs, .ref sd, .ref td])), (tx, .inl (cy 1, 60, .inl f))]) S9 (c_X4_readSign l G cy sc tx kd fs sd td LN n x f 104 hL hx hcz (by decide)) (cwV 1 hts gX4_readTapLetter_X4_readSign rfl rfl rfl (by decide +kernel) ⟨Nat.le_of_ble_eq_true rfl, Nat.le_of_ble_eq_true rfl⟩) PB.blind (va_recv hK.1 hP (ci := 8) (q0 := 0) rfl rfl) (PB.at hK (m_Ppart hP [0, 1] rfl)) hP hD hS [0, 1] rfl rfl m_f2 rfl rfl hl.1 rfl (Nat.le_of_ble_eq_true rfl) ⟨Nat.zero_le _, Nat.zero_le _⟩ dX4_readTapLetter_36 (fun H locs hP hD hS => ?_)
      refine lv_iconst (v := 2) hxq hb dX4_readTapLetter_39 (by decide) ?_
      have e9 : tlX f LN x = (sg f LN 104 x) := ((if_neg c_1).trans (if_neg c_2))
      exact wc_iret hxq hb hr hlocks (by rw [e9]; exact hP) hS (((if_neg c_1).trans (if_neg c_2))).symm dX4_readTapLetter_40
    · refine lv_aload_n hxq hb dX4_readTapLetter_25 rfl (lv_at hl 1 rfl) ?_
      refine lv_bipush (v := 119) hxq hb dX4_readTapLetter_26 (by decide) ?_
      refine c_wcVv (ws' := [(sc, .inr (8, [.ref tx, .int (nI LN), .int (nI ((sg f LN 119 x).1)), .int (bI (sg f LN 119 x).2), .int (nI n), .ref kd, .ref fs, .ref sd, .ref td])), (tx, .inl (cy 1, 60, .inl f))]) S9 (c_X4_readSign l G cy sc tx kd fs sd td LN n x f 119 hL hx hcz (by decide)) (cwV 1 hts gX4_readTapLetter_X4_readSign rfl rfl rfl (by decide +kernel) ⟨Nat.le_of_ble_eq_true rfl, Nat.le_of_ble_eq_true rfl⟩) PB.blind (va_recv hK.1 hP (ci := 8) (q0 := 0) rfl rfl) (PB.at hK (m_Ppart hP [0, 1] rfl)) hP hD hS [0, 1] rfl rfl m_f2 rfl rfl hl.1 rfl (Nat.le_of_ble_eq_true rfl) ⟨Nat.zero_le _, Nat.zero_le _⟩ dX4_readTapLetter_28 (fun H locs hP hD hS => ?_)
      refine lv_iconst (v := 1) hxq hb dX4_readTapLetter_31 (by decide) ?_
      have e9 : tlX f LN x = (sg f LN 119 x) := ((if_neg c_1).trans (if_pos c_2))
      exact wc_iret hxq hb hr hlocks (by rw [e9]; exact hP) hS (((if_neg c_1).trans (if_pos c_2))).symm dX4_readTapLetter_32
  · refine lv_aload_n hxq hb dX4_readTapLetter_11 rfl (lv_at hl 1 rfl) ?_
    refine lv_bipush (v := 99) hxq hb dX4_readTapLetter_12 (by decide) ?_
    refine c_wcVv (ws' := [(sc, .inr (8, [.ref tx, .int (nI LN), .int (nI ((sg f LN 99 x).1)), .int (bI (sg f LN 99 x).2), .int (nI n), .ref kd, .ref fs, .ref sd, .ref td])), (tx, .inl (cy 1, 60, .inl f))]) S9 (c_X4_readSign l G cy sc tx kd fs sd td LN n x f 99 hL hx hcz (by decide)) (cwV 1 hts gX4_readTapLetter_X4_readSign rfl rfl rfl (by decide +kernel) ⟨Nat.le_of_ble_eq_true rfl, Nat.le_of_ble_eq_true rfl⟩) PB.blind (va_recv hK.1 hP (ci := 8) (q0 := 0) rfl rfl) (PB.at hK (m_Ppart hP [0, 1] rfl)) hP hD hS [0, 1] rfl rfl m_f2 rfl rfl hl.1 rfl (Nat.le_of_ble_eq_true rfl) ⟨Nat.zero_le _, Nat.zero_le _⟩ dX4_readTapLetter_14 (fun H locs hP hD hS => ?_)
    refine lv_iconst (v := 0) hxq hb dX4_readTapLetter_17 (by decide) ?_
    have e9 : tlX f LN x = (sg f LN 99 x) := (if_pos c_1)
    exact wc_iret hxq hb hr hlocks (by rw [e9]; exact hP) hS ((if_pos c_1)).symm dX4_readTapLetter_18

set_option maxRecDepth 100000 in
set_option maxHeartbeats 1000000 in
theorem c_X4_readPlugSign (l : Launch) (G : va_G) (cy : Nat → ClassId) (sc tx kd fs sd td LN n : Nat) (x : Lx) (f : Nat → Int32) (hL : LN ≤ 60) (hx : x.1 ≤ LN) (hcz : czN 60 f) : WC l yX4_readPlugSign wsX4_readPlugSign { frames := 2, cells := 0, slots := 0, locals := 41 } G (PB G cy [(sc, .inr (8, [.ref tx, .int (nI LN), .int (nI x.1), .int (bI x.2), .int (nI n), .ref kd, .ref fs, .ref sd, .ref td])), (tx, .inl (cy 1, 60, .inl f))]) [.ref sc] [(sc, .inr (8, [.ref tx, .int (nI LN), .int (nI x.1), .int (bI x.2), .int (nI n), .ref kd, .ref fs, .ref sd, .ref td])), (tx, .inl (cy 1, 60, .inl f))] [(sc, .inr (8, [.ref tx, .int (nI LN), .int (nI ((psX f LN x).1)), .int (bI (psX f LN x).2), .int (nI n), .ref kd, .ref fs, .ref sd, .ref td])), (tx, .inl (cy 1, 60, .inl f))] (some (.int (psV f LN x))) := by
  refine WC.ofW (cc := cX4_readPlugSign) (maxL := 1) (ret := (some .int)) (by decide) rfl (Nat.le_of_ble_eq_true rfl) ?_
  intro p e s m below meth cq S9 hr hlocks hPB hD hS ls hl
  obtain ⟨hxq, hb, hml, hown, hts⟩ := id S9
  obtain ⟨hP, hK⟩ := hPB
  have hl : lv_has ls 1 [(0, .ref sc)] := hl
  refine lv_aload_n hxq hb dX4_readPlugSign_0 rfl (lv_at hl 0 rfl) ?_
  refine c_roVi S9 (c_X4_peek l G cy sc tx kd fs sd td LN n x f hL hx hcz) (cwV 0 hts gX4_readPlugSign_X4_peek rfl rfl rfl (by decide +kernel) ⟨Nat.le_of_ble_eq_true rfl, Nat.le_of_ble_eq_true rfl⟩) PB.blind (va_recv hK.1 hP (ci := 8) (q0 := 0) rfl rfl) (PB.at hK (m_Ppart hP [0, 1] rfl)) rfl hl.1 rfl (Nat.le_of_ble_eq_true rfl) ⟨Nat.zero_le _, Nat.zero_le _⟩ dX4_readPlugSign_1 ?_
  refine lv_bipush (v := 43) hxq hb dX4_readPlugSign_4 (by decide) ?_
  refine lv_icmp_ne (tgt := 17) hxq hb dX4_readPlugSign_6 (by decide) (fun c_1 => ?_) (fun c_1 => ?_)
  · refine lv_aload_n hxq hb dX4_readPlugSign_17 rfl (lv_at hl 0 rfl) ?_
    refine lv_bipush (v := 45) hxq hb dX4_readPlugSign_18 (by decide) ?_
    refine c_wcVv (ws' := [(sc, .inr (8, [.ref tx, .int (nI LN), .int (nI ((sg f LN 45 x).1)), .int (bI (sg f LN 45 x).2), .int (nI n), .ref kd, .ref fs, .ref sd, .ref td])), (tx, .inl (cy 1, 60, .inl f))]) S9 (c_X4_readSign l G cy sc tx kd fs sd td LN n x f 45 hL hx hcz (by decide)) (cwV 1 hts gX4_readPlugSign_X4_readSign rfl rfl rfl (by decide +kernel) ⟨Nat.le_of_ble_eq_true rfl, Nat.le_of_ble_eq_true rfl⟩) PB.blind (va_recv hK.1 hP (ci := 8) (q0 := 0) rfl rfl) (PB.at hK (m_Ppart hP [0, 1] rfl)) hP hD hS [0, 1] rfl rfl m_f2 rfl rfl hl.1 rfl (Nat.le_of_ble_eq_true rfl) ⟨Nat.zero_le _, Nat.zero_le _⟩ dX4_readPlugSign_20 (fun H locs hP hD hS => ?_)
    refine lv_iconst (v := 0) hxq hb dX4_readPlugSign_23 (by decide) ?_
    have e9 : psX f LN x = (sg f LN 45 x) := (if_neg c_1)
    exact wc_iret hxq hb hr hlocks (by rw [e9]; exact hP) hS ((if_neg c_1)).symm dX4_readPlugSign_24
  · refine lv_aload_n hxq hb dX4_readPlugSign_9 rfl (lv_at hl 0 rfl) ?_
    refine lv_bipush (v := 43) hxq hb dX4_readPlugSign_10 (by decide) ?_
    refine c_wcVv (ws' := [(sc, .inr (8, [.ref tx, .int (nI LN), .int (nI ((sg f LN 43 x).1)), .int (bI (sg f LN 43 x).2), .int (nI n), .ref kd, .ref fs, .ref sd, .ref td])), (tx, .inl (cy 1, 60, .inl f))]) S9 (c_X4_readSign l G cy sc tx kd fs sd td LN n x f 43 hL hx hcz (by decide)) (cwV 1 hts gX4_readPlugSign_X4_readSign rfl rfl rfl (by decide +kernel) ⟨Nat.le_of_ble_eq_true rfl, Nat.le_of_ble_eq_true rfl⟩) PB.blind (va_recv hK.1 hP (ci := 8) (q0 := 0) rfl rfl) (PB.at hK (m_Ppart hP [0, 1] rfl)) hP hD hS [0, 1] rfl rfl m_f2 rfl rfl hl.1 rfl (Nat.le_of_ble_eq_true rfl) ⟨Nat.zero_le _, Nat.zero_le _⟩ dX4_readPlugSign_12 (fun H locs hP hD hS => ?_)
    refine lv_iconst (v := 1) hxq hb dX4_readPlugSign_15 (by decide) ?_
    have e9 : psX f LN x = (sg f LN 43 x) := (if_pos c_1)
    exact wc_iret hxq hb hr hlocks (by rw [e9]; exact hP) hS ((if_pos c_1)).symm dX4_readPlugSign_16

set_option maxRecDepth 100000 in
set_option maxHeartbeats 1000000 in
theorem c_X4_readWord (l : Launch) (G : va_G) (cy : Nat → ClassId) (kS vS : Nat → Nat) (sc tx kd fs sd td LN n : Nat) (x : Lx) (f : Nat → Int32) (i : Nat) (hL : LN ≤ 60) (hx : x.1 ≤ LN) (hcz : czN 60 f) (hi : i < 20) : WC l yX4_readWord wsX4_readWord { frames := 4, cells := 0, slots := 0, locals := 85 } G (PS G cy kS vS [(sc, .inr (8, [.ref tx, .int (nI LN), .int (nI x.1), .int (bI x.2), .int (nI n), .ref kd, .ref fs, .ref sd, .ref td])), (tx, .inl (cy 1, 60, .inl f))]) [.ref sc, .ref (kS i)] [(sc, .inr (8, [.ref tx, .int (nI LN), .int (nI x.1), .int (bI x.2), .int (nI n), .ref kd, .ref fs, .ref sd, .ref td])), (tx, .inl (cy 1, 60, .inl f))] [(sc, .inr (8, [.ref tx, .int (nI LN), .int (nI ((wd f LN (ltS i) x).1)), .int (bI (wd f LN (ltS i) x).2), .int (nI n), .ref kd, .ref fs, .ref sd, .ref td])), (tx, .inl (cy 1, 60, .inl f))] (none) := by
  refine WC.ofW (cc := cX4_readWord) (maxL := 3) (ret := none) (by decide) rfl (Nat.le_of_ble_eq_true rfl) ?_
  intro p e s m below meth cq S9 hr hlocks hPB hD hS ls hl
  obtain ⟨hxq, hb, hml, hown, hts⟩ := id S9
  obtain ⟨⟨hP, hK⟩, hSK⟩ := hPB
  have hl : lv_has ls 3 [(0, .ref sc), (1, .ref (kS i))] := hl
  refine lv_iconst (v := 0) hxq hb dX4_readWord_0 (by decide) ?_
  refine lv_istore_n (lv' := [(2, .int 0), (0, .ref sc), (1, .ref (kS i))]) hxq hb dX4_readWord_1 rfl hl (by decide) rfl (fun ls hl => ?_)
  have L_1 : ∀ (d k : Nat), k + d = (lnS i) → ∀ (H : Heap) (locs : List Loc), va_P G vwCl [(sc, .inr (8, [.ref tx, .int (nI LN), .int (nI ((wd f LN ((ltS i).take k) x).1)), .int (bI (wd f LN ((ltS i).take k) x).2), .int (nI n), .ref kd, .ref fs, .ref sd, .ref td])), (tx, .inl (cy 1, 60, .inl f))] H → va_D (wA [(sc, .inr (8, [.ref tx, .int (nI LN), .int (nI x.1), .int (bI x.2), .int (nI n), .ref kd, .ref fs, .ref sd, .ref td])), (tx, .inl (cy 1, 60, .inl f))]) [(sc, .inr (8, [.ref tx, .int (nI LN), .int (nI ((wd f LN ((ltS i).take k) x).1)), .int (bI (wd f LN ((ltS i).take k) x).2), .int (nI n), .ref kd, .ref fs, .ref sd, .ref td])), (tx, .inl (cy 1, 60, .inl f))] → va_S (wA [(sc, .inr (8, [.ref tx, .int (nI LN), .int (nI x.1), .int (bI x.2), .int (nI n), .ref kd, .ref fs, .ref sd, .ref td])), (tx, .inl (cy 1, 60, .inl f))]) s.heap H locs → ∀ ls : Array Slot, lv_has ls 3 [(0, .ref sc), (1, .ref (kS i)), (2, .int (nI k))] → W p l e ({ frames := 4, cells := 0, slots := 0, locals := 85 } : Room) s m ([.ref sc, .ref (kS i)] : List Value).toArray below meth cq H locs 0 0 (wcZ below ([.ref sc, .ref (kS i)] : List Value).toArray s G [(sc, .inr (8, [.ref tx, .int (nI LN), .int (nI x.1), .int (bI x.2), .int (nI n), .ref kd, .ref fs, .ref sd, .ref td])), (tx, .inl (cy 1, 60, .inl f))] [(sc, .inr (8, [.ref tx, .int (nI LN), .int (nI ((wd f LN (ltS i) x).1)), .int (bI (wd f LN (ltS i) x).2), .int (nI n), .ref kd, .ref fs, .ref sd, .ref td])), (tx, .inl (cy 1, 60, .inl f))] (none)) (F0 m 2 ls []) := by
    intro d
    induction d with
    | zero =>
      intro k hkk H locs hP hD hS ls hl
      have hl9 : lnS i < 10 := lnS_lt hi
      refine lv_iload_n hxq hb dX4_readWord_2 rfl (lv_at hl 2 rfl) ?_
      refine lv_aload_n hxq hb dX4_readWord_3 rfl (lv_at hl 1 rfl) ?_
      refine c_roVi S9 (c_J0_length_8abf5 l G cy kS vS i (by first | assumption | decide)) (cwV 0 hts gX4_readWord_J0_length_8abf5 rfl rfl rfl (by decide +kernel) ⟨Nat.le_of_ble_eq_true rfl, Nat.le_of_ble_eq_true rfl⟩) PK.blind (litS.recv hSK.1 (by first | assumption | decide) hS) (PK.at hK hSK hS) rfl hl.1 rfl (Nat.le_of_ble_eq_true rfl) ⟨Nat.zero_le _, Nat.zero_le _⟩ dX4_readWord_4 ?_
      refine lv_icmp_ge (tgt := 25) hxq hb dX4_readWord_7 (by decide) (fun c_2 => ?_) (fun c_2 => ?_)
      · have k_3 : (lnS i) ≤ k := (m_leN (a := (lnS i)) (b := k) rfl rfl (by omega) (by omega)).mp c_2
        have k_3' : ¬ (k < (lnS i)) := by omega
        have e9 : wd f LN ((ltS i).take k) x = wd f LN (ltS i) x := by rw [List.take_of_length_le (by rw [← lnS_eq hi]; omega)]
        rw [e9] at hP
        exact wc_vret hxq hb hr hlocks hP hS dX4_readWord_25
      · have k_4 : ¬ ((lnS i) ≤ k) := fun z => c_2 ((m_leN (a := (lnS i)) (b := k) rfl rfl (by omega) (by omega)).mpr z)
        have k_4' : k < (lnS i) := by omega
        exfalso; omega
    | succ d ih =>
      intro k hkk H locs hP hD hS ls hl
      have hl9 : lnS i < 10 := lnS_lt hi
      have hc9 : ¬ chS i k = 0 := ((chS_ok i hi).2.2 k (show k < lnS i by omega)).2.2
      refine lv_iload_n hxq hb dX4_readWord_2 rfl (lv_at hl 2 rfl) ?_
      refine lv_aload_n hxq hb dX4_readWord_3 rfl (lv_at hl 1 rfl) ?_
      refine c_roVi S9 (c_J0_length_8abf5 l G cy kS vS i (by first | assumption | decide)) (cwV 0 hts gX4_readWord_J0_length_8abf5 rfl rfl rfl (by decide +kernel) ⟨Nat.le_of_ble_eq_true rfl, Nat.le_of_ble_eq_true rfl⟩) PK.blind (litS.recv hSK.1 (by first | assumption | decide) hS) (PK.at hK hSK hS) rfl hl.1 rfl (Nat.le_of_ble_eq_true rfl) ⟨Nat.zero_le _, Nat.zero_le _⟩ dX4_readWord_4 ?_
      refine lv_icmp_ge (tgt := 25) hxq hb dX4_readWord_7 (by decide) (fun c_5 => ?_) (fun c_5 => ?_)
      · have k_6 : (lnS i) ≤ k := (m_leN (a := (lnS i)) (b := k) rfl rfl (by omega) (by omega)).mp c_5
        have k_6' : ¬ (k < (lnS i)) := by omega
        exfalso; omega
      · have k_7 : ¬ ((lnS i) ≤ k) := fun z => c_5 ((m_leN (a := (lnS i)) (b := k) rfl rfl (by omega) (by omega)).mpr z)
        have k_7' : k < (lnS i) := by omega
        refine lv_aload_n hxq hb dX4_readWord_10 rfl (lv_at hl 0 rfl) ?_
        refine lv_aload_n hxq hb dX4_readWord_11 rfl (lv_at hl 1 rfl) ?_
        refine lv_iload_n hxq hb dX4_readWord_12 rfl (lv_at hl 2 rfl) ?_
        refine c_roVi S9 (c_J0_charAt_5068e l G cy kS vS i k (by first | assumption | decide) (show k < lnS i by omega)) (cwV 1 hts gX4_readWord_J0_charAt_5068e rfl rfl rfl (by decide +kernel) ⟨Nat.le_of_ble_eq_true rfl, Nat.le_of_ble_eq_true rfl⟩) PK.blind (litS.recv hSK.1 (by first | assumption | decide) hS) (PK.at hK hSK hS) rfl hl.1 rfl (Nat.le_of_ble_eq_true rfl) ⟨Nat.zero_le _, Nat.zero_le _⟩ dX4_readWord_13 ?_
        refine c_wcVv (ws' := [(sc, .inr (8, [.ref tx, .int (nI LN), .int (nI ((sg f LN (chS i k) (wd f LN ((ltS i).take k) x)).1)), .int (bI (sg f LN (chS i k) (wd f LN ((ltS i).take k) x)).2), .int (nI n), .ref kd, .ref fs, .ref sd, .ref td])), (tx, .inl (cy 1, 60, .inl f))]) S9 (c_X4_readSign l G cy sc tx kd fs sd td LN n (wd f LN ((ltS i).take k) x) f (chS i k) hL (wdt_le hi hx) hcz hc9) (cwV 1 hts gX4_readWord_X4_readSign rfl rfl rfl (by decide +kernel) ⟨Nat.le_of_ble_eq_true rfl, Nat.le_of_ble_eq_true rfl⟩) PB.blind (va_recv hK.1 hP (ci := 8) (q0 := 0) rfl rfl) (PB.at hK (m_Ppart hP [0, 1] rfl)) hP hD hS [0, 1] rfl rfl m_f2 rfl rfl hl.1 rfl (Nat.le_of_ble_eq_true rfl) ⟨Nat.zero_le _, Nat.zero_le _⟩ dX4_readWord_16 (fun H locs hP hD hS => ?_)
        refine lv_iinc (v := nI (k + 1)) (lv' := [(2, .int (nI (k + 1))), (0, .ref sc), (1, .ref (kS i))]) hxq hb dX4_readWord_19 hl (k := 2) rfl (m_inc _) (by decide) rfl (fun ls hl => ?_)
        refine lv_goto (tgt := 2) hxq hb dX4_readWord_22 (by decide) ?_
        have e_8 : wd f LN ((ltS i).take (k + 1)) x = sg f LN (chS i k) (wd f LN ((ltS i).take k) x) := wd_step _ _ _ _ (ltS_at hi (by omega))
        exact ih (k + 1) (by omega) H locs (by rw [e_8]; exact hP) (m_D2 hD) hS ls (lv_sub hl [1, 2, 0] rfl)
  exact L_1 (lnS i) 0 (by omega) _ _ hP (m_D2 hD) hS ls (lv_sub hl [1, 2, 0] rfl)

set_option maxRecDepth 100000 in
set_option maxHeartbeats 1000000 in
theorem c_X4_addCommand (l : Launch) (G : va_G) (cy : Nat → ClassId) (sc tx kd fs sd td LN n : Nat) (x : Lx) (gk g1 g2 g3 : Nat → Int32) (a1 a2 a3 a4 : Int32) (hn : n ≤ 13) : WC l yX4_addCommand wsX4_addCommand { frames := 0, cells := 0, slots := 0, locals := 0 } G (PB G cy [(sc, .inr (8, [.ref tx, .int (nI LN), .int (nI x.1), .int (bI x.2), .int (nI n), .ref kd, .ref fs, .ref sd, .ref td])), (kd, .inl (cy 2, 13, .inl gk)), (fs, .inl (cy 2, 13, .inl g1)), (sd, .inl (cy 2, 13, .inl g2)), (td, .inl (cy 2, 13, .inl g3))]) [.ref sc, .int a1, .int a2, .int a3, .int a4] [(sc, .inr (8, [.ref tx, .int (nI LN), .int (nI x.1), .int (bI x.2), .int (nI n), .ref kd, .ref fs, .ref sd, .ref td])), (kd, .inl (cy 2, 13, .inl gk)), (fs, .inl (cy 2, 13, .inl g1)), (sd, .inl (cy 2, 13, .inl g2)), (td, .inl (cy 2, 13, .inl g3))] [(sc, .inr (8, [.ref tx, .int (nI LN), .int (nI x.1), .int (bI x.2), .int (nI (adN x n)), .ref kd, .ref fs, .ref sd, .ref td])), (kd, .inl (cy 2, 13, .inl (adF x n gk a1))), (fs, .inl (cy 2, 13, .inl (adF x n g1 a2))), (sd, .inl (cy 2, 13, .inl (adF x n g2 a3))), (td, .inl (cy 2, 13, .inl (adF x n g3 a4)))] (none) := by
  refine WC.ofW (cc := cX4_addCommand) (maxL := 5) (ret := none) (by decide) rfl (Nat.le_of_ble_eq_true rfl) ?_
  intro p e s m below meth cq S9 hr hlocks hPB hD hS ls hl
  obtain ⟨hxq, hb, hml, hown, hts⟩ := id S9
  obtain ⟨hP, hK⟩ := hPB
  have hl : lv_has ls 5 [(0, .ref sc), (1, .int a1), (2, .int a2), (3, .int a3), (4, .int a4)] := hl
  have hi8 : ∀ w ∈ wsX40, w ∈ wsX4_addCommand := by decide +kernel
  have hf22 := hts (.fieldLink RX4 22 "BathLeague$Script" "malformed" "Z") (by decide +kernel)
  have hf26 := hts (.fieldLink RX4 26 "BathLeague$Script" "count" "I") (by decide +kernel)
  have hf29 := hts (.fieldLink RX4 29 "BathLeague$Script" "kind" "[I") (by decide +kernel)
  have hf33 := hts (.fieldLink RX4 33 "BathLeague$Script" "first" "[I") (by decide +kernel)
  have hf36 := hts (.fieldLink RX4 36 "BathLeague$Script" "second" "[I") (by decide +kernel)
  have hf39 := hts (.fieldLink RX4 39 "BathLeague$Script" "third" "[I") (by decide +kernel)
  refine lv_aload_n hxq hb dX4_addCommand_0 rfl (lv_at hl 0 rfl) ?_
  refine va_get (D := G) (ci := 8) (v := .int (bI x.2)) (C := RX4) (T := TX4) (N := 9) hxq hb hts hi8 hown hK.1 hP 0 rfl rfl 3 (by decide) hf22 (fun _ h9 => h9) rfl dX4_addCommand_1 ?_
  refine lv_if_ne (tgt := 16) hxq hb dX4_addCommand_4 (by decide) (fun c_1 => ?_) (fun c_1 => ?_)
  · have z_2 : x.2 = true := bI_t c_1
    have e_3 : nI (adN x n) = nI n := (by simp [adN, z_2])
    have e_4 : (adF x n gk a1) = gk := (by simp [adN, adF, z_2])
    have e_5 : (adF x n g1 a2) = g1 := (by simp [adN, adF, z_2])
    have e_6 : (adF x n g2 a3) = g2 := (by simp [adN, adF, z_2])
    have e_7 : (adF x n g3 a4) = g3 := (by simp [adN, adF, z_2])
    exact wc_vret hxq hb hr hlocks (by rw [e_3, e_4, e_5, e_6, e_7]; exact hP) hS dX4_addCommand_16
  · have z_8 : x.2 = false := bI_f c_1
    refine lv_aload_n hxq hb dX4_addCommand_7 rfl (lv_at hl 0 rfl) ?_
    refine va_get (D := G) (ci := 8) (v := .int (nI n)) (C := RX4) (T := TX4) (N := 9) hxq hb hts hi8 hown hK.1 hP 0 rfl rfl 4 (by decide) hf26 (fun _ h9 => h9) rfl dX4_addCommand_8 ?_
    refine lv_bipush (v := 13) hxq hb dX4_addCommand_11 (by decide) ?_
    refine lv_icmp_lt (tgt := 17) hxq hb dX4_addCommand_13 (by decide) (fun c_9 => ?_) (fun c_9 => ?_)
    · have k_10 : n < 13 := (m_ltN (a := n) (b := 13) rfl rfl (by omega) (by omega)).mp c_9
      have k_10' : ¬ (13 ≤ n) := by omega
      refine lv_aload_n hxq hb dX4_addCommand_17 rfl (lv_at hl 0 rfl) ?_
      refine va_get (D := G) (ci := 8) (v := .ref kd) (C := RX4) (T := TX4) (N := 9) hxq hb hts hi8 hown hK.1 hP 0 rfl rfl 5 (by decide) hf29 (fun _ h9 => h9) rfl dX4_addCommand_18 ?_
      refine lv_aload_n hxq hb dX4_addCommand_21 rfl (lv_at hl 0 rfl) ?_
      refine va_get (D := G) (ci := 8) (v := .int (nI n)) (C := RX4) (T := TX4) (N := 9) hxq hb hts hi8 hown hK.1 hP 0 rfl rfl 4 (by decide) hf26 (fun _ h9 => h9) rfl dX4_addCommand_22 ?_
      refine lv_iload_n hxq hb dX4_addCommand_25 rfl (lv_at hl 1 rfl) ?_
      refine m_iast hxq hb hK hP hD hS 1 (k := n) rfl rfl (by omega) (Nat.le_of_ble_eq_true rfl) dX4_addCommand_26 (fun H locs hP hD hS => ?_)
      have hP : va_P G vwCl [(sc, .inr (8, [.ref tx, .int (nI LN), .int (nI x.1), .int (bI x.2), .int (nI n), .ref kd, .ref fs, .ref sd, .ref td])), (kd, .inl (cy 2, 13, .inl (upd gk n a1))), (fs, .inl (cy 2, 13, .inl g1)), (sd, .inl (cy 2, 13, .inl g2)), (td, .inl (cy 2, 13, .inl g3))] H := hP
      have hD : va_D (wA [(sc, .inr (8, [.ref tx, .int (nI LN), .int (nI x.1), .int (bI x.2), .int (nI n), .ref kd, .ref fs, .ref sd, .ref td])), (kd, .inl (cy 2, 13, .inl gk)), (fs, .inl (cy 2, 13, .inl g1)), (sd, .inl (cy 2, 13, .inl g2)), (td, .inl (cy 2, 13, .inl g3))]) [(sc, .inr (8, [.ref tx, .int (nI LN), .int (nI x.1), .int (bI x.2), .int (nI n), .ref kd, .ref fs, .ref sd, .ref td])), (kd, .inl (cy 2, 13, .inl (upd gk n a1))), (fs, .inl (cy 2, 13, .inl g1)), (sd, .inl (cy 2, 13, .inl g2)), (td, .inl (cy 2, 13, .inl g3))] := hD
      refine lv_aload_n hxq hb dX4_addCommand_27 rfl (lv_at hl 0 rfl) ?_
      refine va_get (D := G) (ci := 8) (v := .ref fs) (C := RX4) (T := TX4) (N := 9) hxq hb hts hi8 hown hK.1 hP 0 rfl rfl 6 (by decide) hf33 (fun _ h9 => h9) rfl dX4_addCommand_28 ?_
      refine lv_aload_n hxq hb dX4_addCommand_31 rfl (lv_at hl 0 rfl) ?_
      refine va_get (D := G) (ci := 8) (v := .int (nI n)) (C := RX4) (T := TX4) (N := 9) hxq hb hts hi8 hown hK.1 hP 0 rfl rfl 4 (by decide) hf26 (fun _ h9 => h9) rfl dX4_addCommand_32 ?_
      refine lv_iload_n hxq hb dX4_addCommand_35 rfl (lv_at hl 2 rfl) ?_
      refine m_iast hxq hb hK hP hD hS 2 (k := n) rfl rfl (by omega) (Nat.le_of_ble_eq_true rfl) dX4_addCommand_36 (fun H locs hP hD hS => ?_)
      have hP : va_P G vwCl [(sc, .inr (8, [.ref tx, .int (nI LN), .int (nI x.1), .int (bI x.2), .int (nI n), .ref kd, .ref fs, .ref sd, .ref td])), (kd, .inl (cy 2, 13, .inl (upd gk n a1))), (fs, .inl (cy 2, 13, .inl (upd g1 n a2))), (sd, .inl (cy 2, 13, .inl g2)), (td, .inl (cy 2, 13, .inl g3))] H := hP
      have hD : va_D (wA [(sc, .inr (8, [.ref tx, .int (nI LN), .int (nI x.1), .int (bI x.2), .int (nI n), .ref kd, .ref fs, .ref sd, .ref td])), (kd, .inl (cy 2, 13, .inl gk)), (fs, .inl (cy 2, 13, .inl g1)), (sd, .inl (cy 2, 13, .inl g2)), (td, .inl (cy 2, 13, .inl g3))]) [(sc, .inr (8, [.ref tx, .int (nI LN), .int (nI x.1), .int (bI x.2), .int (nI n), .ref kd, .ref fs, .ref sd, .ref td])), (kd, .inl (cy 2, 13, .inl (upd gk n a1))), (fs, .inl (cy 2, 13, .inl (upd g1 n a2))), (sd, .inl (cy 2, 13, .inl g2)), (td, .inl (cy 2, 13, .inl g3))] := hD
      refine lv_aload_n hxq hb dX4_addCommand_37 rfl (lv_at hl 0 rfl) ?_
      refine va_get (D := G) (ci := 8) (v := .ref sd) (C := RX4) (T := TX4) (N := 9) hxq hb hts hi8 hown hK.1 hP 0 rfl rfl 7 (by decide) hf36 (fun _ h9 => h9) rfl dX4_addCommand_38 ?_
      refine lv_aload_n hxq hb dX4_addCommand_41 rfl (lv_at hl 0 rfl) ?_
      refine va_get (D := G) (ci := 8) (v := .int (nI n)) (C := RX4) (T := TX4) (N := 9) hxq hb hts hi8 hown hK.1 hP 0 rfl rfl 4 (by decide) hf26 (fun _ h9 => h9) rfl dX4_addCommand_42 ?_
      refine lv_iload_n hxq hb dX4_addCommand_45 rfl (lv_at hl 3 rfl) ?_
      refine m_iast hxq hb hK hP hD hS 3 (k := n) rfl rfl (by omega) (Nat.le_of_ble_eq_true rfl) dX4_addCommand_46 (fun H locs hP hD hS => ?_)
      have hP : va_P G vwCl [(sc, .inr (8, [.ref tx, .int (nI LN), .int (nI x.1), .int (bI x.2), .int (nI n), .ref kd, .ref fs, .ref sd, .ref td])), (kd, .inl (cy 2, 13, .inl (upd gk n a1))), (fs, .inl (cy 2, 13, .inl (upd g1 n a2))), (sd, .inl (cy 2, 13, .inl (upd g2 n a3))), (td, .inl (cy 2, 13, .inl g3))] H := hP
      have hD : va_D (wA [(sc, .inr (8, [.ref tx, .int (nI LN), .int (nI x.1), .int (bI x.2), .int (nI n), .ref kd, .ref fs, .ref sd, .ref td])), (kd, .inl (cy 2, 13, .inl gk)), (fs, .inl (cy 2, 13, .inl g1)), (sd, .inl (cy 2, 13, .inl g2)), (td, .inl (cy 2, 13, .inl g3))]) [(sc, .inr (8, [.ref tx, .int (nI LN), .int (nI x.1), .int (bI x.2), .int (nI n), .ref kd, .ref fs, .ref sd, .ref td])), (kd, .inl (cy 2, 13, .inl (upd gk n a1))), (fs, .inl (cy 2, 13, .inl (upd g1 n a2))), (sd, .inl (cy 2, 13, .inl (upd g2 n a3))), (td, .inl (cy 2, 13, .inl g3))] := hD
      refine lv_aload_n hxq hb dX4_addCommand_47 rfl (lv_at hl 0 rfl) ?_
      refine va_get (D := G) (ci := 8) (v := .ref td) (C := RX4) (T := TX4) (N := 9) hxq hb hts hi8 hown hK.1 hP 0 rfl rfl 8 (by decide) hf39 (fun _ h9 => h9) rfl dX4_addCommand_48 ?_
      refine lv_aload_n hxq hb dX4_addCommand_51 rfl (lv_at hl 0 rfl) ?_
      refine va_get (D := G) (ci := 8) (v := .int (nI n)) (C := RX4) (T := TX4) (N := 9) hxq hb hts hi8 hown hK.1 hP 0 rfl rfl 4 (by decide) hf26 (fun _ h9 => h9) rfl dX4_addCommand_52 ?_
      refine lv_iload hxq hb dX4_addCommand_55 (lv_at hl 4 rfl) ?_
      refine m_iast hxq hb hK hP hD hS 4 (k := n) rfl rfl (by omega) (Nat.le_of_ble_eq_true rfl) dX4_addCommand_57 (fun H locs hP hD hS => ?_)
      have hP : va_P G vwCl [(sc, .inr (8, [.ref tx, .int (nI LN), .int (nI x.1), .int (bI x.2), .int (nI n), .ref kd, .ref fs, .ref sd, .ref td])), (kd, .inl (cy 2, 13, .inl (upd gk n a1))), (fs, .inl (cy 2, 13, .inl (upd g1 n a2))), (sd, .inl (cy 2, 13, .inl (upd g2 n a3))), (td, .inl (cy 2, 13, .inl (upd g3 n a4)))] H := hP
      have hD : va_D (wA [(sc, .inr (8, [.ref tx, .int (nI LN), .int (nI x.1), .int (bI x.2), .int (nI n), .ref kd, .ref fs, .ref sd, .ref td])), (kd, .inl (cy 2, 13, .inl gk)), (fs, .inl (cy 2, 13, .inl g1)), (sd, .inl (cy 2, 13, .inl g2)), (td, .inl (cy 2, 13, .inl g3))]) [(sc, .inr (8, [.ref tx, .int (nI LN), .int (nI x.1), .int (bI x.2), .int (nI n), .ref kd, .ref fs, .ref sd, .ref td])), (kd, .inl (cy 2, 13, .inl (upd gk n a1))), (fs, .inl (cy 2, 13, .inl (upd g1 n a2))), (sd, .inl (cy 2, 13, .inl (upd g2 n a3))), (td, .inl (cy 2, 13, .inl (upd g3 n a4)))] := hD
      refine lv_aload_n hxq hb dX4_addCommand_58 rfl (lv_at hl 0 rfl) ?_
      refine lv_dup hxq hb dX4_addCommand_59 rfl ?_
      refine va_get (D := G) (ci := 8) (v := .int (nI n)) (C := RX4) (T := TX4) (N := 9) hxq hb hts hi8 hown hK.1 hP 0 rfl rfl 4 (by decide) hf26 (fun _ h9 => h9) rfl dX4_addCommand_60 ?_
      refine lv_iconst (v := 1) hxq hb dX4_addCommand_63 (by decide) ?_
      refine lv_iadd hxq hb dX4_addCommand_64 ?_
      refine lv_t0 (show (nI n) + 1 = nI (n + 1) from (m_add rfl rfl)) ?_
      refine va_put (D := G) (ci := 8) (v := .int (nI (n + 1))) (ty := .int) (C := RX4) (T := TX4) (N := 9) hxq hb hts hi8 tyX4 tyX4_ok nmX4 hown hK.1 hP hD hS 0 rfl rfl 4 (by decide) hf26 (fun _ h9 => h9) rfl (by decide +kernel) rfl rfl (Nat.le_of_ble_eq_true rfl) dX4_addCommand_65 (fun H locs hP hD hS => ?_)
      have hP : va_P G vwCl [(sc, .inr (8, [.ref tx, .int (nI LN), .int (nI x.1), .int (bI x.2), .int (nI (n + 1)), .ref kd, .ref fs, .ref sd, .ref td])), (kd, .inl (cy 2, 13, .inl (upd gk n a1))), (fs, .inl (cy 2, 13, .inl (upd g1 n a2))), (sd, .inl (cy 2, 13, .inl (upd g2 n a3))), (td, .inl (cy 2, 13, .inl (upd g3 n a4)))] H := hP
      have hD : va_D (wA [(sc, .inr (8, [.ref tx, .int (nI LN), .int (nI x.1), .int (bI x.2), .int (nI n), .ref kd, .ref fs, .ref sd, .ref td])), (kd, .inl (cy 2, 13, .inl gk)), (fs, .inl (cy 2, 13, .inl g1)), (sd, .inl (cy 2, 13, .inl g2)), (td, .inl (cy 2, 13, .inl g3))]) [(sc, .inr (8, [.ref tx, .int (nI LN), .int (nI x.1), .int (bI x.2), .int (nI (n + 1)), .ref kd, .ref fs, .ref sd, .ref td])), (kd, .inl (cy 2, 13, .inl (upd gk n a1))), (fs, .inl (cy 2, 13, .inl (upd g1 n a2))), (sd, .inl (cy 2, 13, .inl (upd g2 n a3))), (td, .inl (cy 2, 13, .inl (upd g3 n a4)))] := hD
      have e_11 : nI (adN x n) = nI (n + 1) := (by simp [adN, z_8, k_10', k_10])
      have e_12 : (adF x n gk a1) = upd gk n a1 := (by simp [adN, adF, z_8, k_10', k_10])
      have e_13 : (adF x n g1 a2) = upd g1 n a2 := (by simp [adN, adF, z_8, k_10', k_10])
      have e_14 : (adF x n g2 a3) = upd g2 n a3 := (by simp [adN, adF, z_8, k_10', k_10])
      have e_15 : (adF x n g3 a4) = upd g3 n a4 := (by simp [adN, adF, z_8, k_10', k_10])
      exact wc_vret hxq hb hr hlocks (by rw [e_11, e_12, e_13, e_14, e_15]; exact hP) hS dX4_addCommand_68
    · have k_16 : ¬ (n < 13) := fun z => c_9 ((m_ltN (a := n) (b := 13) rfl rfl (by omega) (by omega)).mpr z)
      have k_16' : 13 ≤ n := by omega
      have e_17 : nI (adN x n) = nI n := (by simp [adN, z_8, k_16', k_16])
      have e_18 : (adF x n gk a1) = gk := (by simp [adN, adF, z_8, k_16', k_16])
      have e_19 : (adF x n g1 a2) = g1 := (by simp [adN, adF, z_8, k_16', k_16])
      have e_20 : (adF x n g2 a3) = g2 := (by simp [adN, adF, z_8, k_16', k_16])
      have e_21 : (adF x n g3 a4) = g3 := (by simp [adN, adF, z_8, k_16', k_16])
      exact wc_vret hxq hb hr hlocks (by rw [e_17, e_18, e_19, e_20, e_21]; exact hP) hS dX4_addCommand_16

set_option maxRecDepth 100000 in
set_option maxHeartbeats 1000000 in
theorem c_X4_readTapOrTick (l : Launch) (G : va_G) (cy : Nat → ClassId) (kS vS : Nat → Nat) (sc tx kd fs sd td LN n : Nat) (x : Lx) (f gk g1 g2 g3 : Nat → Int32) (hL : LN ≤ 60) (hx : x.1 ≤ LN) (hcz : czN 60 f) (hn : n ≤ 13) : WC l yX4_readTapOrTick wsX4_readTapOrTick { frames := 5, cells := 0, slots := 0, locals := 107 } G (PS G cy kS vS [(sc, .inr (8, [.ref tx, .int (nI LN), .int (nI x.1), .int (bI x.2), .int (nI n), .ref kd, .ref fs, .ref sd, .ref td])), (tx, .inl (cy 1, 60, .inl f)), (kd, .inl (cy 2, 13, .inl gk)), (fs, .inl (cy 2, 13, .inl g1)), (sd, .inl (cy 2, 13, .inl g2)), (td, .inl (cy 2, 13, .inl g3))]) [.ref sc] [(sc, .inr (8, [.ref tx, .int (nI LN), .int (nI x.1), .int (bI x.2), .int (nI n), .ref kd, .ref fs, .ref sd, .ref td])), (tx, .inl (cy 1, 60, .inl f)), (kd, .inl (cy 2, 13, .inl gk)), (fs, .inl (cy 2, 13, .inl g1)), (sd, .inl (cy 2, 13, .inl g2)), (td, .inl (cy 2, 13, .inl g3))] [(sc, .inr (8, [.ref tx, .int (nI LN), .int (nI ((tapC f LN x).1.1)), .int (bI (tapC f LN x).1.2), .int (nI (adN (tapC f LN x).1 n)), .ref kd, .ref fs, .ref sd, .ref td])), (tx, .inl (cy 1, 60, .inl f)), (kd, .inl (cy 2, 13, .inl (adF (tapC f LN x).1 n gk (tapC f LN x).2.1))), (fs, .inl (cy 2, 13, .inl (adF (tapC f LN x).1 n g1 (tapC f LN x).2.2.1))), (sd, .inl (cy 2, 13, .inl (adF (tapC f LN x).1 n g2 (tapC f LN x).2.2.2.1))), (td, .inl (cy 2, 13, .inl (adF (tapC f LN x).1 n g3 (tapC f LN x).2.2.2.2)))] (none) := by
  refine WC.ofW (cc := cX4_readTapOrTick) (maxL := 3) (ret := none) (by decide) rfl (Nat.le_of_ble_eq_true rfl) ?_
  intro p e s m below meth cq S9 hr hlocks hPB hD hS ls hl
  obtain ⟨hxq, hb, hml, hown, hts⟩ := id S9
  obtain ⟨⟨hP, hK⟩, hSK⟩ := hPB
  have hl : lv_has ls 3 [(0, .ref sc)] := hl
  refine lv_aload_n hxq hb dX4_readTapOrTick_0 rfl (lv_at hl 0 rfl) ?_
  refine c_roVi S9 (c_X4_peek l G cy sc tx kd fs sd td LN n x f hL hx hcz) (cwV 0 hts gX4_readTapOrTick_X4_peek rfl rfl rfl (by decide +kernel) ⟨Nat.le_of_ble_eq_true rfl, Nat.le_of_ble_eq_true rfl⟩) PB.blind (va_recv hK.1 hP (ci := 8) (q0 := 0) rfl rfl) (PB.at hK (m_Ppart hP [0, 1] rfl)) rfl hl.1 rfl (Nat.le_of_ble_eq_true rfl) ⟨Nat.zero_le _, Nat.zero_le _⟩ dX4_readTapOrTick_1 ?_
  refine lv_bipush (v := 97) hxq hb dX4_readTapOrTick_4 (by decide) ?_
  refine lv_icmp_ne (tgt := 51) hxq hb dX4_readTapOrTick_6 (by decide) (fun c_1 => ?_) (fun c_1 => ?_)
  · refine lv_aload_n hxq hb dX4_readTapOrTick_51 rfl (lv_at hl 0 rfl) ?_
    refine va_ldcS hxq hb hown (hSK.2.1 4 (by decide)) dX4_readTapOrTick_52 ?_
    refine c_wcVv (ws' := [(sc, .inr (8, [.ref tx, .int (nI LN), .int (nI ((wd f LN (ltS 4) x).1)), .int (bI (wd f LN (ltS 4) x).2), .int (nI n), .ref kd, .ref fs, .ref sd, .ref td])), (tx, .inl (cy 1, 60, .inl f)), (kd, .inl (cy 2, 13, .inl gk)), (fs, .inl (cy 2, 13, .inl g1)), (sd, .inl (cy 2, 13, .inl g2)), (td, .inl (cy 2, 13, .inl g3))]) S9 (c_X4_readWord l G cy kS vS sc tx kd fs sd td LN n x f 4 hL hx hcz (by first | assumption | decide)) (cwV 1 hts gX4_readTapOrTick_X4_readWord rfl rfl rfl (by decide +kernel) ⟨Nat.le_of_ble_eq_true rfl, Nat.le_of_ble_eq_true rfl⟩) PS.blind (va_recv hK.1 hP (ci := 8) (q0 := 0) rfl rfl) (PS.at hSK hS (wA_sub hD [0, 1] rfl) hK (m_Ppart hP [0, 1] rfl)) hP hD hS [0, 1] rfl rfl m_f2 rfl rfl hl.1 rfl (Nat.le_of_ble_eq_true rfl) ⟨Nat.zero_le _, Nat.zero_le _⟩ dX4_readTapOrTick_54 (fun H locs hP hD hS => ?_)
    have hP : va_P G vwCl [(sc, .inr (8, [.ref tx, .int (nI LN), .int (nI ((wd f LN wIck x).1)), .int (bI (wd f LN wIck x).2), .int (nI n), .ref kd, .ref fs, .ref sd, .ref td])), (tx, .inl (cy 1, 60, .inl f)), (kd, .inl (cy 2, 13, .inl gk)), (fs, .inl (cy 2, 13, .inl g1)), (sd, .inl (cy 2, 13, .inl g2)), (td, .inl (cy 2, 13, .inl g3))] H := hP
    have hD : va_D (wA [(sc, .inr (8, [.ref tx, .int (nI LN), .int (nI x.1), .int (bI x.2), .int (nI n), .ref kd, .ref fs, .ref sd, .ref td])), (tx, .inl (cy 1, 60, .inl f)), (kd, .inl (cy 2, 13, .inl gk)), (fs, .inl (cy 2, 13, .inl g1)), (sd, .inl (cy 2, 13, .inl g2)), (td, .inl (cy 2, 13, .inl g3))]) [(sc, .inr (8, [.ref tx, .int (nI LN), .int (nI ((wd f LN wIck x).1)), .int (bI (wd f LN wIck x).2), .int (nI n), .ref kd, .ref fs, .ref sd, .ref td])), (tx, .inl (cy 1, 60, .inl f)), (kd, .inl (cy 2, 13, .inl gk)), (fs, .inl (cy 2, 13, .inl g1)), (sd, .inl (cy 2, 13, .inl g2)), (td, .inl (cy 2, 13, .inl g3))] := hD
    refine lv_iconst (v := 1) hxq hb dX4_readTapOrTick_57 (by decide) ?_
    refine lv_istore_n (lv' := [(1, .int 1), (0, .ref sc)]) hxq hb dX4_readTapOrTick_58 rfl hl (by decide) rfl (fun ls hl => ?_)
    refine lv_aload_n hxq hb dX4_readTapOrTick_59 rfl (lv_at hl 1 rfl) ?_
    refine c_roVi S9 (c_X4_peek l G cy sc tx kd fs sd td LN n (wd f LN wIck x) f hL (wd_le _ (by decide) hx) hcz) (cwV 0 hts gX4_readTapOrTick_X4_peek rfl rfl rfl (by decide +kernel) ⟨Nat.le_of_ble_eq_true rfl, Nat.le_of_ble_eq_true rfl⟩) PB.blind (va_recv hK.1 hP (ci := 8) (q0 := 0) rfl rfl) (PB.at hK (m_Ppart hP [0, 1] rfl)) rfl hl.1 rfl (Nat.le_of_ble_eq_true rfl) ⟨Nat.zero_le _, Nat.zero_le _⟩ dX4_readTapOrTick_60 ?_
    refine lv_bipush (v := 32) hxq hb dX4_readTapOrTick_63 (by decide) ?_
    refine lv_icmp_ne (tgt := 79) hxq hb dX4_readTapOrTick_65 (by decide) (fun c_2 => ?_) (fun c_2 => ?_)
    · refine lv_aload_n hxq hb dX4_readTapOrTick_79 rfl (lv_at hl 1 rfl) ?_
      refine lv_bipush (v := 7) hxq hb dX4_readTapOrTick_80 (by decide) ?_
      refine lv_iload_n hxq hb dX4_readTapOrTick_82 rfl (lv_at hl 0 rfl) ?_
      refine lv_iconst (v := 0) hxq hb dX4_readTapOrTick_83 (by decide) ?_
      refine lv_iconst (v := 0) hxq hb dX4_readTapOrTick_84 (by decide) ?_
      refine c_wcVv (ws' := [(sc, .inr (8, [.ref tx, .int (nI LN), .int (nI (wd f LN wIck x).1), .int (bI (wd f LN wIck x).2), .int (nI (adN (wd f LN wIck x) n)), .ref kd, .ref fs, .ref sd, .ref td])), (tx, .inl (cy 1, 60, .inl f)), (kd, .inl (cy 2, 13, .inl (adF (wd f LN wIck x) n gk 7))), (fs, .inl (cy 2, 13, .inl (adF (wd f LN wIck x) n g1 1))), (sd, .inl (cy 2, 13, .inl (adF (wd f LN wIck x) n g2 0))), (td, .inl (cy 2, 13, .inl (adF (wd f LN wIck x) n g3 0)))]) S9 (c_X4_addCommand l G cy sc tx kd fs sd td LN n (wd f LN wIck x) gk g1 g2 g3 7 1 0 0 (by omega)) (cwV 4 hts gX4_readTapOrTick_X4_addCommand rfl rfl rfl (by decide +kernel) ⟨Nat.le_of_ble_eq_true rfl, Nat.le_of_ble_eq_true rfl⟩) PB.blind (va_recv hK.1 hP (ci := 8) (q0 := 0) rfl rfl) (PB.at hK (m_Ppart hP [0, 2, 3, 4, 5] rfl)) hP hD hS [0, 2, 3, 4, 5] rfl rfl m_f5 rfl rfl hl.1 rfl (Nat.le_of_ble_eq_true rfl) ⟨Nat.zero_le _, Nat.zero_le _⟩ dX4_readTapOrTick_85 (fun H locs hP hD hS => ?_)
      have e9 : tapC f LN x = ((wd f LN wIck x), 7, 1, 0, 0) := ((if_neg c_1).trans (if_neg c_2))
      exact wc_vret hxq hb hr hlocks (by rw [e9]; (try dsimp only); exact hP) hS dX4_readTapOrTick_88
    · refine lv_aload_n hxq hb dX4_readTapOrTick_68 rfl (lv_at hl 1 rfl) ?_
      refine lv_bipush (v := 32) hxq hb dX4_readTapOrTick_69 (by decide) ?_
      refine c_wcVv (ws' := [(sc, .inr (8, [.ref tx, .int (nI LN), .int (nI ((sg f LN 32 (wd f LN wIck x)).1)), .int (bI (sg f LN 32 (wd f LN wIck x)).2), .int (nI n), .ref kd, .ref fs, .ref sd, .ref td])), (tx, .inl (cy 1, 60, .inl f)), (kd, .inl (cy 2, 13, .inl gk)), (fs, .inl (cy 2, 13, .inl g1)), (sd, .inl (cy 2, 13, .inl g2)), (td, .inl (cy 2, 13, .inl g3))]) S9 (c_X4_readSign l G cy sc tx kd fs sd td LN n (wd f LN wIck x) f 32 hL (wd_le _ (by decide) hx) hcz (by decide)) (cwV 1 hts gX4_readTapOrTick_X4_readSign rfl rfl rfl (by decide +kernel) ⟨Nat.le_of_ble_eq_true rfl, Nat.le_of_ble_eq_true rfl⟩) PB.blind (va_recv hK.1 hP (ci := 8) (q0 := 0) rfl rfl) (PB.at hK (m_Ppart hP [0, 1] rfl)) hP hD hS [0, 1] rfl rfl m_f2 rfl rfl hl.1 rfl (Nat.le_of_ble_eq_true rfl) ⟨Nat.zero_le _, Nat.zero_le _⟩ dX4_readTapOrTick_71 (fun H locs hP hD hS => ?_)
      refine lv_aload_n hxq hb dX4_readTapOrTick_74 rfl (lv_at hl 1 rfl) ?_
      refine c_wcVi (ws' := [(sc, .inr (8, [.ref tx, .int (nI LN), .int (nI ((nmX f LN (sg f LN 32 (wd f LN wIck x))).1)), .int (bI (nmX f LN (sg f LN 32 (wd f LN wIck x))).2), .int (nI n), .ref kd, .ref fs, .ref sd, .ref td])), (tx, .inl (cy 1, 60, .inl f)), (kd, .inl (cy 2, 13, .inl gk)), (fs, .inl (cy 2, 13, .inl g1)), (sd, .inl (cy 2, 13, .inl g2)), (td, .inl (cy 2, 13, .inl g3))]) S9 (c_X4_readNumber l G cy sc tx kd fs sd td LN n (sg f LN 32 (wd f LN wIck x)) f hL (sg_le (by decide) (wd_le _ (by decide) hx)) hcz) (cwV 0 hts gX4_readTapOrTick_X4_readNumber rfl rfl rfl (by decide +kernel) ⟨Nat.le_of_ble_eq_true rfl, Nat.le_of_ble_eq_true rfl⟩) PB.blind (va_recv hK.1 hP (ci := 8) (q0 := 0) rfl rfl) (PB.at hK (m_Ppart hP [0, 1] rfl)) hP hD hS [0, 1] rfl rfl m_f2 rfl rfl hl.1 rfl (Nat.le_of_ble_eq_true rfl) ⟨Nat.zero_le _, Nat.zero_le _⟩ dX4_readTapOrTick_75 (fun H locs hP hD hS => ?_)
      refine lv_istore_n (lv' := [(1, .int (nmV f LN (sg f LN 32 (wd f LN wIck x)))), (0, .ref sc)]) hxq hb dX4_readTapOrTick_78 rfl hl (by decide) rfl (fun ls hl => ?_)
      refine lv_aload_n hxq hb dX4_readTapOrTick_79 rfl (lv_at hl 1 rfl) ?_
      refine lv_bipush (v := 7) hxq hb dX4_readTapOrTick_80 (by decide) ?_
      refine lv_iload_n hxq hb dX4_readTapOrTick_82 rfl (lv_at hl 0 rfl) ?_
      refine lv_iconst (v := 0) hxq hb dX4_readTapOrTick_83 (by decide) ?_
      refine lv_iconst (v := 0) hxq hb dX4_readTapOrTick_84 (by decide) ?_
      refine c_wcVv (ws' := [(sc, .inr (8, [.ref tx, .int (nI LN), .int (nI (nmX f LN (sg f LN 32 (wd f LN wIck x))).1), .int (bI (nmX f LN (sg f LN 32 (wd f LN wIck x))).2), .int (nI (adN (nmX f LN (sg f LN 32 (wd f LN wIck x))) n)), .ref kd, .ref fs, .ref sd, .ref td])), (tx, .inl (cy 1, 60, .inl f)), (kd, .inl (cy 2, 13, .inl (adF (nmX f LN (sg f LN 32 (wd f LN wIck x))) n gk 7))), (fs, .inl (cy 2, 13, .inl (adF (nmX f LN (sg f LN 32 (wd f LN wIck x))) n g1 (nmV f LN (sg f LN 32 (wd f LN wIck x)))))), (sd, .inl (cy 2, 13, .inl (adF (nmX f LN (sg f LN 32 (wd f LN wIck x))) n g2 0))), (td, .inl (cy 2, 13, .inl (adF (nmX f LN (sg f LN 32 (wd f LN wIck x))) n g3 0)))]) S9 (c_X4_addCommand l G cy sc tx kd fs sd td LN n (nmX f LN (sg f LN 32 (wd f LN wIck x))) gk g1 g2 g3 7 (nmV f LN (sg f LN 32 (wd f LN wIck x))) 0 0 (by omega)) (cwV 4 hts gX4_readTapOrTick_X4_addCommand rfl rfl rfl (by decide +kernel) ⟨Nat.le_of_ble_eq_true rfl, Nat.le_of_ble_eq_true rfl⟩) PB.blind (va_recv hK.1 hP (ci := 8) (q0 := 0) rfl rfl) (PB.at hK (m_Ppart hP [0, 2, 3, 4, 5] rfl)) hP hD hS [0, 2, 3, 4, 5] rfl rfl m_f5 rfl rfl hl.1 rfl (Nat.le_of_ble_eq_true rfl) ⟨Nat.zero_le _, Nat.zero_le _⟩ dX4_readTapOrTick_85 (fun H locs hP hD hS => ?_)
      have e9 : tapC f LN x = ((nmX f LN (sg f LN 32 (wd f LN wIck x))), 7, (nmV f LN (sg f LN 32 (wd f LN wIck x))), 0, 0) := ((if_neg c_1).trans (if_pos c_2))
      exact wc_vret hxq hb hr hlocks (by rw [e9]; (try dsimp only); exact hP) hS dX4_readTapOrTick_88
  · refine lv_aload_n hxq hb dX4_readTapOrTick_9 rfl (lv_at hl 0 rfl) ?_
    refine va_ldcS hxq hb hown (hSK.2.1 3 (by decide)) dX4_readTapOrTick_10 ?_
    refine c_wcVv (ws' := [(sc, .inr (8, [.ref tx, .int (nI LN), .int (nI ((wd f LN (ltS 3) x).1)), .int (bI (wd f LN (ltS 3) x).2), .int (nI n), .ref kd, .ref fs, .ref sd, .ref td])), (tx, .inl (cy 1, 60, .inl f)), (kd, .inl (cy 2, 13, .inl gk)), (fs, .inl (cy 2, 13, .inl g1)), (sd, .inl (cy 2, 13, .inl g2)), (td, .inl (cy 2, 13, .inl g3))]) S9 (c_X4_readWord l G cy kS vS sc tx kd fs sd td LN n x f 3 hL hx hcz (by first | assumption | decide)) (cwV 1 hts gX4_readTapOrTick_X4_readWord rfl rfl rfl (by decide +kernel) ⟨Nat.le_of_ble_eq_true rfl, Nat.le_of_ble_eq_true rfl⟩) PS.blind (va_recv hK.1 hP (ci := 8) (q0 := 0) rfl rfl) (PS.at hSK hS (wA_sub hD [0, 1] rfl) hK (m_Ppart hP [0, 1] rfl)) hP hD hS [0, 1] rfl rfl m_f2 rfl rfl hl.1 rfl (Nat.le_of_ble_eq_true rfl) ⟨Nat.zero_le _, Nat.zero_le _⟩ dX4_readTapOrTick_12 (fun H locs hP hD hS => ?_)
    have hP : va_P G vwCl [(sc, .inr (8, [.ref tx, .int (nI LN), .int (nI ((wd f LN wAp x).1)), .int (bI (wd f LN wAp x).2), .int (nI n), .ref kd, .ref fs, .ref sd, .ref td])), (tx, .inl (cy 1, 60, .inl f)), (kd, .inl (cy 2, 13, .inl gk)), (fs, .inl (cy 2, 13, .inl g1)), (sd, .inl (cy 2, 13, .inl g2)), (td, .inl (cy 2, 13, .inl g3))] H := hP
    have hD : va_D (wA [(sc, .inr (8, [.ref tx, .int (nI LN), .int (nI x.1), .int (bI x.2), .int (nI n), .ref kd, .ref fs, .ref sd, .ref td])), (tx, .inl (cy 1, 60, .inl f)), (kd, .inl (cy 2, 13, .inl gk)), (fs, .inl (cy 2, 13, .inl g1)), (sd, .inl (cy 2, 13, .inl g2)), (td, .inl (cy 2, 13, .inl g3))]) [(sc, .inr (8, [.ref tx, .int (nI LN), .int (nI ((wd f LN wAp x).1)), .int (bI (wd f LN wAp x).2), .int (nI n), .ref kd, .ref fs, .ref sd, .ref td])), (tx, .inl (cy 1, 60, .inl f)), (kd, .inl (cy 2, 13, .inl gk)), (fs, .inl (cy 2, 13, .inl g1)), (sd, .inl (cy 2, 13, .inl g2)), (td, .inl (cy 2, 13, .inl g3))] := hD
    refine lv_aload_n hxq hb dX4_readTapOrTick_15 rfl (lv_at hl 0 rfl) ?_
    refine c_wcVi (ws' := [(sc, .inr (8, [.ref tx, .int (nI LN), .int (nI ((dgX f LN (wd f LN wAp x)).1)), .int (bI (dgX f LN (wd f LN wAp x)).2), .int (nI n), .ref kd, .ref fs, .ref sd, .ref td])), (tx, .inl (cy 1, 60, .inl f)), (kd, .inl (cy 2, 13, .inl gk)), (fs, .inl (cy 2, 13, .inl g1)), (sd, .inl (cy 2, 13, .inl g2)), (td, .inl (cy 2, 13, .inl g3))]) S9 (c_X4_readDigit l G cy sc tx kd fs sd td LN n (wd f LN wAp x) f hL (wd_le _ (by decide) hx) hcz) (cwV 0 hts gX4_readTapOrTick_X4_readDigit rfl rfl rfl (by decide +kernel) ⟨Nat.le_of_ble_eq_true rfl, Nat.le_of_ble_eq_true rfl⟩) PB.blind (va_recv hK.1 hP (ci := 8) (q0 := 0) rfl rfl) (PB.at hK (m_Ppart hP [0, 1] rfl)) hP hD hS [0, 1] rfl rfl m_f2 rfl rfl hl.1 rfl (Nat.le_of_ble_eq_true rfl) ⟨Nat.zero_le _, Nat.zero_le _⟩ dX4_readTapOrTick_16 (fun H locs hP hD hS => ?_)
    refine lv_istore_n (lv' := [(1, .int (dgV f LN (wd f LN wAp x))), (0, .ref sc)]) hxq hb dX4_readTapOrTick_19 rfl hl (by decide) rfl (fun ls hl => ?_)
    refine lv_aload_n hxq hb dX4_readTapOrTick_20 rfl (lv_at hl 1 rfl) ?_
    refine lv_bipush (v := 32) hxq hb dX4_readTapOrTick_21 (by decide) ?_
    refine c_wcVv (ws' := [(sc, .inr (8, [.ref tx, .int (nI LN), .int (nI ((sg f LN 32 (dgX f LN (wd f LN wAp x))).1)), .int (bI (sg f LN 32 (dgX f LN (wd f LN wAp x))).2), .int (nI n), .ref kd, .ref fs, .ref sd, .ref td])), (tx, .inl (cy 1, 60, .inl f)), (kd, .inl (cy 2, 13, .inl gk)), (fs, .inl (cy 2, 13, .inl g1)), (sd, .inl (cy 2, 13, .inl g2)), (td, .inl (cy 2, 13, .inl g3))]) S9 (c_X4_readSign l G cy sc tx kd fs sd td LN n (dgX f LN (wd f LN wAp x)) f 32 hL (dgX_le (wd_le _ (by decide) hx)) hcz (by decide)) (cwV 1 hts gX4_readTapOrTick_X4_readSign rfl rfl rfl (by decide +kernel) ⟨Nat.le_of_ble_eq_true rfl, Nat.le_of_ble_eq_true rfl⟩) PB.blind (va_recv hK.1 hP (ci := 8) (q0 := 0) rfl rfl) (PB.at hK (m_Ppart hP [0, 1] rfl)) hP hD hS [0, 1] rfl rfl m_f2 rfl rfl hl.1 rfl (Nat.le_of_ble_eq_true rfl) ⟨Nat.zero_le _, Nat.zero_le _⟩ dX4_readTapOrTick_23 (fun H locs hP hD hS => ?_)
    refine lv_aload_n hxq hb dX4_readTapOrTick_26 rfl (lv_at hl 1 rfl) ?_
    refine c_wcVi (ws' := [(sc, .inr (8, [.ref tx, .int (nI LN), .int (nI ((tlX f LN (sg f LN 32 (dgX f LN (wd f LN wAp x)))).1)), .int (bI (tlX f LN (sg f LN 32 (dgX f LN (wd f LN wAp x)))).2), .int (nI n), .ref kd, .ref fs, .ref sd, .ref td])), (tx, .inl (cy 1, 60, .inl f)), (kd, .inl (cy 2, 13, .inl gk)), (fs, .inl (cy 2, 13, .inl g1)), (sd, .inl (cy 2, 13, .inl g2)), (td, .inl (cy 2, 13, .inl g3))]) S9 (c_X4_readTapLetter l G cy sc tx kd fs sd td LN n (sg f LN 32 (dgX f LN (wd f LN wAp x))) f hL (sg_le (by decide) (dgX_le (wd_le _ (by decide) hx))) hcz) (cwV 0 hts gX4_readTapOrTick_X4_readTapLetter rfl rfl rfl (by decide +kernel) ⟨Nat.le_of_ble_eq_true rfl, Nat.le_of_ble_eq_true rfl⟩) PB.blind (va_recv hK.1 hP (ci := 8) (q0 := 0) rfl rfl) (PB.at hK (m_Ppart hP [0, 1] rfl)) hP hD hS [0, 1] rfl rfl m_f2 rfl rfl hl.1 rfl (Nat.le_of_ble_eq_true rfl) ⟨Nat.zero_le _, Nat.zero_le _⟩ dX4_readTapOrTick_27 (fun H locs hP hD hS => ?_)
    refine lv_istore_n (lv' := [(2, .int (tlV f LN (sg f LN 32 (dgX f LN (wd f LN wAp x))))), (1, .int (dgV f LN (wd f LN wAp x))), (0, .ref sc)]) hxq hb dX4_readTapOrTick_30 rfl hl (by decide) rfl (fun ls hl => ?_)
    refine lv_aload_n hxq hb dX4_readTapOrTick_31 rfl (lv_at hl 2 rfl) ?_
    refine lv_bipush (v := 32) hxq hb dX4_readTapOrTick_32 (by decide) ?_
    refine c_wcVv (ws' := [(sc, .inr (8, [.ref tx, .int (nI LN), .int (nI ((sg f LN 32 (tlX f LN (sg f LN 32 (dgX f LN (wd f LN wAp x))))).1)), .int (bI (sg f LN 32 (tlX f LN (sg f LN 32 (dgX f LN (wd f LN wAp x))))).2), .int (nI n), .ref kd, .ref fs, .ref sd, .ref td])), (tx, .inl (cy 1, 60, .inl f)), (kd, .inl (cy 2, 13, .inl gk)), (fs, .inl (cy 2, 13, .inl g1)), (sd, .inl (cy 2, 13, .inl g2)), (td, .inl (cy 2, 13, .inl g3))]) S9 (c_X4_readSign l G cy sc tx kd fs sd td LN n (tlX f LN (sg f LN 32 (dgX f LN (wd f LN wAp x)))) f 32 hL (tlX_le (sg_le (by decide) (dgX_le (wd_le _ (by decide) hx)))) hcz (by decide)) (cwV 1 hts gX4_readTapOrTick_X4_readSign rfl rfl rfl (by decide +kernel) ⟨Nat.le_of_ble_eq_true rfl, Nat.le_of_ble_eq_true rfl⟩) PB.blind (va_recv hK.1 hP (ci := 8) (q0 := 0) rfl rfl) (PB.at hK (m_Ppart hP [0, 1] rfl)) hP hD hS [0, 1] rfl rfl m_f2 rfl rfl hl.1 rfl (Nat.le_of_ble_eq_true rfl) ⟨Nat.zero_le _, Nat.zero_le _⟩ dX4_readTapOrTick_34 (fun H locs hP hD hS => ?_)
    refine lv_aload_n hxq hb dX4_readTapOrTick_37 rfl (lv_at hl 2 rfl) ?_
    refine lv_iconst (v := 1) hxq hb dX4_readTapOrTick_38 (by decide) ?_
    refine lv_iload_n hxq hb dX4_readTapOrTick_39 rfl (lv_at hl 1 rfl) ?_
    refine lv_iload_n hxq hb dX4_readTapOrTick_40 rfl (lv_at hl 0 rfl) ?_
    refine lv_aload_n hxq hb dX4_readTapOrTick_41 rfl (lv_at hl 2 rfl) ?_
    refine c_wcVi (ws' := [(sc, .inr (8, [.ref tx, .int (nI LN), .int (nI ((nmX f LN (sg f LN 32 (tlX f LN (sg f LN 32 (dgX f LN (wd f LN wAp x)))))).1)), .int (bI (nmX f LN (sg f LN 32 (tlX f LN (sg f LN 32 (dgX f LN (wd f LN wAp x)))))).2), .int (nI n), .ref kd, .ref fs, .ref sd, .ref td])), (tx, .inl (cy 1, 60, .inl f)), (kd, .inl (cy 2, 13, .inl gk)), (fs, .inl (cy 2, 13, .inl g1)), (sd, .inl (cy 2, 13, .inl g2)), (td, .inl (cy 2, 13, .inl g3))]) S9 (c_X4_readNumber l G cy sc tx kd fs sd td LN n (sg f LN 32 (tlX f LN (sg f LN 32 (dgX f LN (wd f LN wAp x))))) f hL (sg_le (by decide) (tlX_le (sg_le (by decide) (dgX_le (wd_le _ (by decide) hx))))) hcz) (cwV 0 hts gX4_readTapOrTick_X4_readNumber rfl rfl rfl (by decide +kernel) ⟨Nat.le_of_ble_eq_true rfl, Nat.le_of_ble_eq_true rfl⟩) PB.blind (va_recv hK.1 hP (ci := 8) (q0 := 0) rfl rfl) (PB.at hK (m_Ppart hP [0, 1] rfl)) hP hD hS [0, 1] rfl rfl m_f2 rfl rfl hl.1 rfl (Nat.le_of_ble_eq_true rfl) ⟨Nat.zero_le _, Nat.zero_le _⟩ dX4_readTapOrTick_42 (fun H locs hP hD hS => ?_)
    refine c_wcVv (ws' := [(sc, .inr (8, [.ref tx, .int (nI LN), .int (nI (nmX f LN (sg f LN 32 (tlX f LN (sg f LN 32 (dgX f LN (wd f LN wAp x)))))).1), .int (bI (nmX f LN (sg f LN 32 (tlX f LN (sg f LN 32 (dgX f LN (wd f LN wAp x)))))).2), .int (nI (adN (nmX f LN (sg f LN 32 (tlX f LN (sg f LN 32 (dgX f LN (wd f LN wAp x)))))) n)), .ref kd, .ref fs, .ref sd, .ref td])), (tx, .inl (cy 1, 60, .inl f)), (kd, .inl (cy 2, 13, .inl (adF (nmX f LN (sg f LN 32 (tlX f LN (sg f LN 32 (dgX f LN (wd f LN wAp x)))))) n gk 1))), (fs, .inl (cy 2, 13, .inl (adF (nmX f LN (sg f LN 32 (tlX f LN (sg f LN 32 (dgX f LN (wd f LN wAp x)))))) n g1 (dgV f LN (wd f LN wAp x))))), (sd, .inl (cy 2, 13, .inl (adF (nmX f LN (sg f LN 32 (tlX f LN (sg f LN 32 (dgX f LN (wd f LN wAp x)))))) n g2 (tlV f LN (sg f LN 32 (dgX f LN (wd f LN wAp x))))))), (td, .inl (cy 2, 13, .inl (adF (nmX f LN (sg f LN 32 (tlX f LN (sg f LN 32 (dgX f LN (wd f LN wAp x)))))) n g3 (nmV f LN (sg f LN 32 (tlX f LN (sg f LN 32 (dgX f LN (wd f LN wAp x)))))))))]) S9 (c_X4_addCommand l G cy sc tx kd fs sd td LN n (nmX f LN (sg f LN 32 (tlX f LN (sg f LN 32 (dgX f LN (wd f LN wAp x)))))) gk g1 g2 g3 1 (dgV f LN (wd f LN wAp x)) (tlV f LN (sg f LN 32 (dgX f LN (wd f LN wAp x)))) (nmV f LN (sg f LN 32 (tlX f LN (sg f LN 32 (dgX f LN (wd f LN wAp x)))))) (by omega)) (cwV 4 hts gX4_readTapOrTick_X4_addCommand rfl rfl rfl (by decide +kernel) ⟨Nat.le_of_ble_eq_true rfl, Nat.le_of_ble_eq_true rfl⟩) PB.blind (va_recv hK.1 hP (ci := 8) (q0 := 0) rfl rfl) (PB.at hK (m_Ppart hP [0, 2, 3, 4, 5] rfl)) hP hD hS [0, 2, 3, 4, 5] rfl rfl m_f5 rfl rfl hl.1 rfl (Nat.le_of_ble_eq_true rfl) ⟨Nat.zero_le _, Nat.zero_le _⟩ dX4_readTapOrTick_45 (fun H locs hP hD hS => ?_)
    refine lv_goto (tgt := 88) hxq hb dX4_readTapOrTick_48 (by decide) ?_
    have e9 : tapC f LN x = ((nmX f LN (sg f LN 32 (tlX f LN (sg f LN 32 (dgX f LN (wd f LN wAp x)))))), 1, (dgV f LN (wd f LN wAp x)), (tlV f LN (sg f LN 32 (dgX f LN (wd f LN wAp x)))), (nmV f LN (sg f LN 32 (tlX f LN (sg f LN 32 (dgX f LN (wd f LN wAp x))))))) := (if_pos c_1)
    exact wc_vret hxq hb hr hlocks (by rw [e9]; (try dsimp only); exact hP) hS dX4_readTapOrTick_88

set_option maxRecDepth 100000 in
set_option maxHeartbeats 1000000 in
theorem c_X4_readPlugOrPour (l : Launch) (G : va_G) (cy : Nat → ClassId) (kS vS : Nat → Nat) (sc tx kd fs sd td LN n : Nat) (x : Lx) (f gk g1 g2 g3 : Nat → Int32) (hL : LN ≤ 60) (hx : x.1 ≤ LN) (hcz : czN 60 f) (hn : n ≤ 13) : WC l yX4_readPlugOrPour wsX4_readPlugOrPour { frames := 5, cells := 0, slots := 0, locals := 107 } G (PS G cy kS vS [(sc, .inr (8, [.ref tx, .int (nI LN), .int (nI x.1), .int (bI x.2), .int (nI n), .ref kd, .ref fs, .ref sd, .ref td])), (tx, .inl (cy 1, 60, .inl f)), (kd, .inl (cy 2, 13, .inl gk)), (fs, .inl (cy 2, 13, .inl g1)), (sd, .inl (cy 2, 13, .inl g2)), (td, .inl (cy 2, 13, .inl g3))]) [.ref sc] [(sc, .inr (8, [.ref tx, .int (nI LN), .int (nI x.1), .int (bI x.2), .int (nI n), .ref kd, .ref fs, .ref sd, .ref td])), (tx, .inl (cy 1, 60, .inl f)), (kd, .inl (cy 2, 13, .inl gk)), (fs, .inl (cy 2, 13, .inl g1)), (sd, .inl (cy 2, 13, .inl g2)), (td, .inl (cy 2, 13, .inl g3))] [(sc, .inr (8, [.ref tx, .int (nI LN), .int (nI ((pluC f LN x).1.1)), .int (bI (pluC f LN x).1.2), .int (nI (adN (pluC f LN x).1 n)), .ref kd, .ref fs, .ref sd, .ref td])), (tx, .inl (cy 1, 60, .inl f)), (kd, .inl (cy 2, 13, .inl (adF (pluC f LN x).1 n gk (pluC f LN x).2.1))), (fs, .inl (cy 2, 13, .inl (adF (pluC f LN x).1 n g1 (pluC f LN x).2.2.1))), (sd, .inl (cy 2, 13, .inl (adF (pluC f LN x).1 n g2 (pluC f LN x).2.2.2.1))), (td, .inl (cy 2, 13, .inl (adF (pluC f LN x).1 n g3 (pluC f LN x).2.2.2.2)))] (none) := by
  refine WC.ofW (cc := cX4_readPlugOrPour) (maxL := 3) (ret := none) (by decide) rfl (Nat.le_of_ble_eq_true rfl) ?_
  intro p e s m below meth cq S9 hr hlocks hPB hD hS ls hl
  obtain ⟨hxq, hb, hml, hown, hts⟩ := id S9
  obtain ⟨⟨hP, hK⟩, hSK⟩ := hPB
  have hl : lv_has ls 3 [(0, .ref sc)] := hl
  refine lv_aload_n hxq hb dX4_readPlugOrPour_0 rfl (lv_at hl 0 rfl) ?_
  refine c_roVi S9 (c_X4_peek l G cy sc tx kd fs sd td LN n x f hL hx hcz) (cwV 0 hts gX4_readPlugOrPour_X4_peek rfl rfl rfl (by decide +kernel) ⟨Nat.le_of_ble_eq_true rfl, Nat.le_of_ble_eq_true rfl⟩) PB.blind (va_recv hK.1 hP (ci := 8) (q0 := 0) rfl rfl) (PB.at hK (m_Ppart hP [0, 1] rfl)) rfl hl.1 rfl (Nat.le_of_ble_eq_true rfl) ⟨Nat.zero_le _, Nat.zero_le _⟩ dX4_readPlugOrPour_1 ?_
  refine lv_bipush (v := 108) hxq hb dX4_readPlugOrPour_4 (by decide) ?_
  refine lv_icmp_ne (tgt := 40) hxq hb dX4_readPlugOrPour_6 (by decide) (fun c_1 => ?_) (fun c_1 => ?_)
  · refine lv_aload_n hxq hb dX4_readPlugOrPour_40 rfl (lv_at hl 0 rfl) ?_
    refine va_ldcS hxq hb hown (hSK.2.1 6 (by decide)) dX4_readPlugOrPour_41 ?_
    refine c_wcVv (ws' := [(sc, .inr (8, [.ref tx, .int (nI LN), .int (nI ((wd f LN (ltS 6) x).1)), .int (bI (wd f LN (ltS 6) x).2), .int (nI n), .ref kd, .ref fs, .ref sd, .ref td])), (tx, .inl (cy 1, 60, .inl f)), (kd, .inl (cy 2, 13, .inl gk)), (fs, .inl (cy 2, 13, .inl g1)), (sd, .inl (cy 2, 13, .inl g2)), (td, .inl (cy 2, 13, .inl g3))]) S9 (c_X4_readWord l G cy kS vS sc tx kd fs sd td LN n x f 6 hL hx hcz (by first | assumption | decide)) (cwV 1 hts gX4_readPlugOrPour_X4_readWord rfl rfl rfl (by decide +kernel) ⟨Nat.le_of_ble_eq_true rfl, Nat.le_of_ble_eq_true rfl⟩) PS.blind (va_recv hK.1 hP (ci := 8) (q0 := 0) rfl rfl) (PS.at hSK hS (wA_sub hD [0, 1] rfl) hK (m_Ppart hP [0, 1] rfl)) hP hD hS [0, 1] rfl rfl m_f2 rfl rfl hl.1 rfl (Nat.le_of_ble_eq_true rfl) ⟨Nat.zero_le _, Nat.zero_le _⟩ dX4_readPlugOrPour_43 (fun H locs hP hD hS => ?_)
    have hP : va_P G vwCl [(sc, .inr (8, [.ref tx, .int (nI LN), .int (nI ((wd f LN wOur x).1)), .int (bI (wd f LN wOur x).2), .int (nI n), .ref kd, .ref fs, .ref sd, .ref td])), (tx, .inl (cy 1, 60, .inl f)), (kd, .inl (cy 2, 13, .inl gk)), (fs, .inl (cy 2, 13, .inl g1)), (sd, .inl (cy 2, 13, .inl g2)), (td, .inl (cy 2, 13, .inl g3))] H := hP
    have hD : va_D (wA [(sc, .inr (8, [.ref tx, .int (nI LN), .int (nI x.1), .int (bI x.2), .int (nI n), .ref kd, .ref fs, .ref sd, .ref td])), (tx, .inl (cy 1, 60, .inl f)), (kd, .inl (cy 2, 13, .inl gk)), (fs, .inl (cy 2, 13, .inl g1)), (sd, .inl (cy 2, 13, .inl g2)), (td, .inl (cy 2, 13, .inl g3))]) [(sc, .inr (8, [.ref tx, .int (nI LN), .int (nI ((wd f LN wOur x).1)), .int (bI (wd f LN wOur x).2), .int (nI n), .ref kd, .ref fs, .ref sd, .ref td])), (tx, .inl (cy 1, 60, .inl f)), (kd, .inl (cy 2, 13, .inl gk)), (fs, .inl (cy 2, 13, .inl g1)), (sd, .inl (cy 2, 13, .inl g2)), (td, .inl (cy 2, 13, .inl g3))] := hD
    refine lv_aload_n hxq hb dX4_readPlugOrPour_46 rfl (lv_at hl 0 rfl) ?_
    refine c_wcVi (ws' := [(sc, .inr (8, [.ref tx, .int (nI LN), .int (nI ((dgX f LN (wd f LN wOur x)).1)), .int (bI (dgX f LN (wd f LN wOur x)).2), .int (nI n), .ref kd, .ref fs, .ref sd, .ref td])), (tx, .inl (cy 1, 60, .inl f)), (kd, .inl (cy 2, 13, .inl gk)), (fs, .inl (cy 2, 13, .inl g1)), (sd, .inl (cy 2, 13, .inl g2)), (td, .inl (cy 2, 13, .inl g3))]) S9 (c_X4_readDigit l G cy sc tx kd fs sd td LN n (wd f LN wOur x) f hL (wd_le _ (by decide) hx) hcz) (cwV 0 hts gX4_readPlugOrPour_X4_readDigit rfl rfl rfl (by decide +kernel) ⟨Nat.le_of_ble_eq_true rfl, Nat.le_of_ble_eq_true rfl⟩) PB.blind (va_recv hK.1 hP (ci := 8) (q0 := 0) rfl rfl) (PB.at hK (m_Ppart hP [0, 1] rfl)) hP hD hS [0, 1] rfl rfl m_f2 rfl rfl hl.1 rfl (Nat.le_of_ble_eq_true rfl) ⟨Nat.zero_le _, Nat.zero_le _⟩ dX4_readPlugOrPour_47 (fun H locs hP hD hS => ?_)
    refine lv_istore_n (lv' := [(1, .int (dgV f LN (wd f LN wOur x))), (0, .ref sc)]) hxq hb dX4_readPlugOrPour_50 rfl hl (by decide) rfl (fun ls hl => ?_)
    refine lv_aload_n hxq hb dX4_readPlugOrPour_51 rfl (lv_at hl 1 rfl) ?_
    refine lv_bipush (v := 32) hxq hb dX4_readPlugOrPour_52 (by decide) ?_
    refine c_wcVv (ws' := [(sc, .inr (8, [.ref tx, .int (nI LN), .int (nI ((sg f LN 32 (dgX f LN (wd f LN wOur x))).1)), .int (bI (sg f LN 32 (dgX f LN (wd f LN wOur x))).2), .int (nI n), .ref kd, .ref fs, .ref sd, .ref td])), (tx, .inl (cy 1, 60, .inl f)), (kd, .inl (cy 2, 13, .inl gk)), (fs, .inl (cy 2, 13, .inl g1)), (sd, .inl (cy 2, 13, .inl g2)), (td, .inl (cy 2, 13, .inl g3))]) S9 (c_X4_readSign l G cy sc tx kd fs sd td LN n (dgX f LN (wd f LN wOur x)) f 32 hL (dgX_le (wd_le _ (by decide) hx)) hcz (by decide)) (cwV 1 hts gX4_readPlugOrPour_X4_readSign rfl rfl rfl (by decide +kernel) ⟨Nat.le_of_ble_eq_true rfl, Nat.le_of_ble_eq_true rfl⟩) PB.blind (va_recv hK.1 hP (ci := 8) (q0 := 0) rfl rfl) (PB.at hK (m_Ppart hP [0, 1] rfl)) hP hD hS [0, 1] rfl rfl m_f2 rfl rfl hl.1 rfl (Nat.le_of_ble_eq_true rfl) ⟨Nat.zero_le _, Nat.zero_le _⟩ dX4_readPlugOrPour_54 (fun H locs hP hD hS => ?_)
    refine lv_aload_n hxq hb dX4_readPlugOrPour_57 rfl (lv_at hl 1 rfl) ?_
    refine c_wcVi (ws' := [(sc, .inr (8, [.ref tx, .int (nI LN), .int (nI ((dgX f LN (sg f LN 32 (dgX f LN (wd f LN wOur x)))).1)), .int (bI (dgX f LN (sg f LN 32 (dgX f LN (wd f LN wOur x)))).2), .int (nI n), .ref kd, .ref fs, .ref sd, .ref td])), (tx, .inl (cy 1, 60, .inl f)), (kd, .inl (cy 2, 13, .inl gk)), (fs, .inl (cy 2, 13, .inl g1)), (sd, .inl (cy 2, 13, .inl g2)), (td, .inl (cy 2, 13, .inl g3))]) S9 (c_X4_readDigit l G cy sc tx kd fs sd td LN n (sg f LN 32 (dgX f LN (wd f LN wOur x))) f hL (sg_le (by decide) (dgX_le (wd_le _ (by decide) hx))) hcz) (cwV 0 hts gX4_readPlugOrPour_X4_readDigit rfl rfl rfl (by decide +kernel) ⟨Nat.le_of_ble_eq_true rfl, Nat.le_of_ble_eq_true rfl⟩) PB.blind (va_recv hK.1 hP (ci := 8) (q0 := 0) rfl rfl) (PB.at hK (m_Ppart hP [0, 1] rfl)) hP hD hS [0, 1] rfl rfl m_f2 rfl rfl hl.1 rfl (Nat.le_of_ble_eq_true rfl) ⟨Nat.zero_le _, Nat.zero_le _⟩ dX4_readPlugOrPour_58 (fun H locs hP hD hS => ?_)
    refine lv_istore_n (lv' := [(2, .int (dgV f LN (sg f LN 32 (dgX f LN (wd f LN wOur x))))), (1, .int (dgV f LN (wd f LN wOur x))), (0, .ref sc)]) hxq hb dX4_readPlugOrPour_61 rfl hl (by decide) rfl (fun ls hl => ?_)
    refine lv_aload_n hxq hb dX4_readPlugOrPour_62 rfl (lv_at hl 2 rfl) ?_
    refine lv_bipush (v := 32) hxq hb dX4_readPlugOrPour_63 (by decide) ?_
    refine c_wcVv (ws' := [(sc, .inr (8, [.ref tx, .int (nI LN), .int (nI ((sg f LN 32 (dgX f LN (sg f LN 32 (dgX f LN (wd f LN wOur x))))).1)), .int (bI (sg f LN 32 (dgX f LN (sg f LN 32 (dgX f LN (wd f LN wOur x))))).2), .int (nI n), .ref kd, .ref fs, .ref sd, .ref td])), (tx, .inl (cy 1, 60, .inl f)), (kd, .inl (cy 2, 13, .inl gk)), (fs, .inl (cy 2, 13, .inl g1)), (sd, .inl (cy 2, 13, .inl g2)), (td, .inl (cy 2, 13, .inl g3))]) S9 (c_X4_readSign l G cy sc tx kd fs sd td LN n (dgX f LN (sg f LN 32 (dgX f LN (wd f LN wOur x)))) f 32 hL (dgX_le (sg_le (by decide) (dgX_le (wd_le _ (by decide) hx)))) hcz (by decide)) (cwV 1 hts gX4_readPlugOrPour_X4_readSign rfl rfl rfl (by decide +kernel) ⟨Nat.le_of_ble_eq_true rfl, Nat.le_of_ble_eq_true rfl⟩) PB.blind (va_recv hK.1 hP (ci := 8) (q0 := 0) rfl rfl) (PB.at hK (m_Ppart hP [0, 1] rfl)) hP hD hS [0, 1] rfl rfl m_f2 rfl rfl hl.1 rfl (Nat.le_of_ble_eq_true rfl) ⟨Nat.zero_le _, Nat.zero_le _⟩ dX4_readPlugOrPour_65 (fun H locs hP hD hS => ?_)
    refine lv_aload_n hxq hb dX4_readPlugOrPour_68 rfl (lv_at hl 2 rfl) ?_
    refine lv_iconst (v := 3) hxq hb dX4_readPlugOrPour_69 (by decide) ?_
    refine lv_iload_n hxq hb dX4_readPlugOrPour_70 rfl (lv_at hl 1 rfl) ?_
    refine lv_iload_n hxq hb dX4_readPlugOrPour_71 rfl (lv_at hl 0 rfl) ?_
    refine lv_aload_n hxq hb dX4_readPlugOrPour_72 rfl (lv_at hl 2 rfl) ?_
    refine c_wcVi (ws' := [(sc, .inr (8, [.ref tx, .int (nI LN), .int (nI ((nmX f LN (sg f LN 32 (dgX f LN (sg f LN 32 (dgX f LN (wd f LN wOur x)))))).1)), .int (bI (nmX f LN (sg f LN 32 (dgX f LN (sg f LN 32 (dgX f LN (wd f LN wOur x)))))).2), .int (nI n), .ref kd, .ref fs, .ref sd, .ref td])), (tx, .inl (cy 1, 60, .inl f)), (kd, .inl (cy 2, 13, .inl gk)), (fs, .inl (cy 2, 13, .inl g1)), (sd, .inl (cy 2, 13, .inl g2)), (td, .inl (cy 2, 13, .inl g3))]) S9 (c_X4_readNumber l G cy sc tx kd fs sd td LN n (sg f LN 32 (dgX f LN (sg f LN 32 (dgX f LN (wd f LN wOur x))))) f hL (sg_le (by decide) (dgX_le (sg_le (by decide) (dgX_le (wd_le _ (by decide) hx))))) hcz) (cwV 0 hts gX4_readPlugOrPour_X4_readNumber rfl rfl rfl (by decide +kernel) ⟨Nat.le_of_ble_eq_true rfl, Nat.le_of_ble_eq_true rfl⟩) PB.blind (va_recv hK.1 hP (ci := 8) (q0 := 0) rfl rfl) (PB.at hK (m_Ppart hP [0, 1] rfl)) hP hD hS [0, 1] rfl rfl m_f2 rfl rfl hl.1 rfl (Nat.le_of_ble_eq_true rfl) ⟨Nat.zero_le _, Nat.zero_le _⟩ dX4_readPlugOrPour_73 (fun H locs hP hD hS => ?_)
    refine c_wcVv (ws' := [(sc, .inr (8, [.ref tx, .int (nI LN), .int (nI (nmX f LN (sg f LN 32 (dgX f LN (sg f LN 32 (dgX f LN (wd f LN wOur x)))))).1), .int (bI (nmX f LN (sg f LN 32 (dgX f LN (sg f LN 32 (dgX f LN (wd f LN wOur x)))))).2), .int (nI (adN (nmX f LN (sg f LN 32 (dgX f LN (sg f LN 32 (dgX f LN (wd f LN wOur x)))))) n)), .ref kd, .ref fs, .ref sd, .ref td])), (tx, .inl (cy 1, 60, .inl f)), (kd, .inl (cy 2, 13, .inl (adF (nmX f LN (sg f LN 32 (dgX f LN (sg f LN 32 (dgX f LN (wd f LN wOur x)))))) n gk 3))), (fs, .inl (cy 2, 13, .inl (adF (nmX f LN (sg f LN 32 (dgX f LN (sg f LN 32 (dgX f LN (wd f LN wOur x)))))) n g1 (dgV f LN (wd f LN wOur x))))), (sd, .inl (cy 2, 13, .inl (adF (nmX f LN (sg f LN 32 (dgX f LN (sg f LN 32 (dgX f LN (wd f LN wOur x)))))) n g2 (dgV f LN (sg f LN 32 (dgX f LN (wd f LN wOur x))))))), (td, .inl (cy 2, 13, .inl (adF (nmX f LN (sg f LN 32 (dgX f LN (sg f LN 32 (dgX f LN (wd f LN wOur x)))))) n g3 (nmV f LN (sg f LN 32 (dgX f LN (sg f LN 32 (dgX f LN (wd f LN wOur x)))))))))]) S9 (c_X4_addCommand l G cy sc tx kd fs sd td LN n (nmX f LN (sg f LN 32 (dgX f LN (sg f LN 32 (dgX f LN (wd f LN wOur x)))))) gk g1 g2 g3 3 (dgV f LN (wd f LN wOur x)) (dgV f LN (sg f LN 32 (dgX f LN (wd f LN wOur x)))) (nmV f LN (sg f LN 32 (dgX f LN (sg f LN 32 (dgX f LN (wd f LN wOur x)))))) (by omega)) (cwV 4 hts gX4_readPlugOrPour_X4_addCommand rfl rfl rfl (by decide +kernel) ⟨Nat.le_of_ble_eq_true rfl, Nat.le_of_ble_eq_true rfl⟩) PB.blind (va_recv hK.1 hP (ci := 8) (q0 := 0) rfl rfl) (PB.at hK (m_Ppart hP [0, 2, 3, 4, 5] rfl)) hP hD hS [0, 2, 3, 4, 5] rfl rfl m_f5 rfl rfl hl.1 rfl (Nat.le_of_ble_eq_true rfl) ⟨Nat.zero_le _, Nat.zero_le _⟩ dX4_readPlugOrPour_76 (fun H locs hP hD hS => ?_)
    have e9 : pluC f LN x = ((nmX f LN (sg f LN 32 (dgX f LN (sg f LN 32 (dgX f LN (wd f LN wOur x)))))), 3, (dgV f LN (wd f LN wOur x)), (dgV f LN (sg f LN 32 (dgX f LN (wd f LN wOur x)))), (nmV f LN (sg f LN 32 (dgX f LN (sg f LN 32 (dgX f LN (wd f LN wOur x))))))) := (if_neg c_1)
    exact wc_vret hxq hb hr hlocks (by rw [e9]; (try dsimp only); exact hP) hS dX4_readPlugOrPour_79
  · refine lv_aload_n hxq hb dX4_readPlugOrPour_9 rfl (lv_at hl 0 rfl) ?_
    refine va_ldcS hxq hb hown (hSK.2.1 5 (by decide)) dX4_readPlugOrPour_10 ?_
    refine c_wcVv (ws' := [(sc, .inr (8, [.ref tx, .int (nI LN), .int (nI ((wd f LN (ltS 5) x).1)), .int (bI (wd f LN (ltS 5) x).2), .int (nI n), .ref kd, .ref fs, .ref sd, .ref td])), (tx, .inl (cy 1, 60, .inl f)), (kd, .inl (cy 2, 13, .inl gk)), (fs, .inl (cy 2, 13, .inl g1)), (sd, .inl (cy 2, 13, .inl g2)), (td, .inl (cy 2, 13, .inl g3))]) S9 (c_X4_readWord l G cy kS vS sc tx kd fs sd td LN n x f 5 hL hx hcz (by first | assumption | decide)) (cwV 1 hts gX4_readPlugOrPour_X4_readWord rfl rfl rfl (by decide +kernel) ⟨Nat.le_of_ble_eq_true rfl, Nat.le_of_ble_eq_true rfl⟩) PS.blind (va_recv hK.1 hP (ci := 8) (q0 := 0) rfl rfl) (PS.at hSK hS (wA_sub hD [0, 1] rfl) hK (m_Ppart hP [0, 1] rfl)) hP hD hS [0, 1] rfl rfl m_f2 rfl rfl hl.1 rfl (Nat.le_of_ble_eq_true rfl) ⟨Nat.zero_le _, Nat.zero_le _⟩ dX4_readPlugOrPour_12 (fun H locs hP hD hS => ?_)
    have hP : va_P G vwCl [(sc, .inr (8, [.ref tx, .int (nI LN), .int (nI ((wd f LN wLug x).1)), .int (bI (wd f LN wLug x).2), .int (nI n), .ref kd, .ref fs, .ref sd, .ref td])), (tx, .inl (cy 1, 60, .inl f)), (kd, .inl (cy 2, 13, .inl gk)), (fs, .inl (cy 2, 13, .inl g1)), (sd, .inl (cy 2, 13, .inl g2)), (td, .inl (cy 2, 13, .inl g3))] H := hP
    have hD : va_D (wA [(sc, .inr (8, [.ref tx, .int (nI LN), .int (nI x.1), .int (bI x.2), .int (nI n), .ref kd, .ref fs, .ref sd, .ref td])), (tx, .inl (cy 1, 60, .inl f)), (kd, .inl (cy 2, 13, .inl gk)), (fs, .inl (cy 2, 13, .inl g1)), (sd, .inl (cy 2, 13, .inl g2)), (td, .inl (cy 2, 13, .inl g3))]) [(sc, .inr (8, [.ref tx, .int (nI LN), .int (nI ((wd f LN wLug x).1)), .int (bI (wd f LN wLug x).2), .int (nI n), .ref kd, .ref fs, .ref sd, .ref td])), (tx, .inl (cy 1, 60, .inl f)), (kd, .inl (cy 2, 13, .inl gk)), (fs, .inl (cy 2, 13, .inl g1)), (sd, .inl (cy 2, 13, .inl g2)), (td, .inl (cy 2, 13, .inl g3))] := hD
    refine lv_aload_n hxq hb dX4_readPlugOrPour_15 rfl (lv_at hl 0 rfl) ?_
    refine c_wcVi (ws' := [(sc, .inr (8, [.ref tx, .int (nI LN), .int (nI ((dgX f LN (wd f LN wLug x)).1)), .int (bI (dgX f LN (wd f LN wLug x)).2), .int (nI n), .ref kd, .ref fs, .ref sd, .ref td])), (tx, .inl (cy 1, 60, .inl f)), (kd, .inl (cy 2, 13, .inl gk)), (fs, .inl (cy 2, 13, .inl g1)), (sd, .inl (cy 2, 13, .inl g2)), (td, .inl (cy 2, 13, .inl g3))]) S9 (c_X4_readDigit l G cy sc tx kd fs sd td LN n (wd f LN wLug x) f hL (wd_le _ (by decide) hx) hcz) (cwV 0 hts gX4_readPlugOrPour_X4_readDigit rfl rfl rfl (by decide +kernel) ⟨Nat.le_of_ble_eq_true rfl, Nat.le_of_ble_eq_true rfl⟩) PB.blind (va_recv hK.1 hP (ci := 8) (q0 := 0) rfl rfl) (PB.at hK (m_Ppart hP [0, 1] rfl)) hP hD hS [0, 1] rfl rfl m_f2 rfl rfl hl.1 rfl (Nat.le_of_ble_eq_true rfl) ⟨Nat.zero_le _, Nat.zero_le _⟩ dX4_readPlugOrPour_16 (fun H locs hP hD hS => ?_)
    refine lv_istore_n (lv' := [(1, .int (dgV f LN (wd f LN wLug x))), (0, .ref sc)]) hxq hb dX4_readPlugOrPour_19 rfl hl (by decide) rfl (fun ls hl => ?_)
    refine lv_aload_n hxq hb dX4_readPlugOrPour_20 rfl (lv_at hl 1 rfl) ?_
    refine lv_bipush (v := 32) hxq hb dX4_readPlugOrPour_21 (by decide) ?_
    refine c_wcVv (ws' := [(sc, .inr (8, [.ref tx, .int (nI LN), .int (nI ((sg f LN 32 (dgX f LN (wd f LN wLug x))).1)), .int (bI (sg f LN 32 (dgX f LN (wd f LN wLug x))).2), .int (nI n), .ref kd, .ref fs, .ref sd, .ref td])), (tx, .inl (cy 1, 60, .inl f)), (kd, .inl (cy 2, 13, .inl gk)), (fs, .inl (cy 2, 13, .inl g1)), (sd, .inl (cy 2, 13, .inl g2)), (td, .inl (cy 2, 13, .inl g3))]) S9 (c_X4_readSign l G cy sc tx kd fs sd td LN n (dgX f LN (wd f LN wLug x)) f 32 hL (dgX_le (wd_le _ (by decide) hx)) hcz (by decide)) (cwV 1 hts gX4_readPlugOrPour_X4_readSign rfl rfl rfl (by decide +kernel) ⟨Nat.le_of_ble_eq_true rfl, Nat.le_of_ble_eq_true rfl⟩) PB.blind (va_recv hK.1 hP (ci := 8) (q0 := 0) rfl rfl) (PB.at hK (m_Ppart hP [0, 1] rfl)) hP hD hS [0, 1] rfl rfl m_f2 rfl rfl hl.1 rfl (Nat.le_of_ble_eq_true rfl) ⟨Nat.zero_le _, Nat.zero_le _⟩ dX4_readPlugOrPour_23 (fun H locs hP hD hS => ?_)
    refine lv_aload_n hxq hb dX4_readPlugOrPour_26 rfl (lv_at hl 1 rfl) ?_
    refine lv_iconst (v := 2) hxq hb dX4_readPlugOrPour_27 (by decide) ?_
    refine lv_iload_n hxq hb dX4_readPlugOrPour_28 rfl (lv_at hl 0 rfl) ?_
    refine lv_aload_n hxq hb dX4_readPlugOrPour_29 rfl (lv_at hl 1 rfl) ?_
    refine c_wcVi (ws' := [(sc, .inr (8, [.ref tx, .int (nI LN), .int (nI ((psX f LN (sg f LN 32 (dgX f LN (wd f LN wLug x)))).1)), .int (bI (psX f LN (sg f LN 32 (dgX f LN (wd f LN wLug x)))).2), .int (nI n), .ref kd, .ref fs, .ref sd, .ref td])), (tx, .inl (cy 1, 60, .inl f)), (kd, .inl (cy 2, 13, .inl gk)), (fs, .inl (cy 2, 13, .inl g1)), (sd, .inl (cy 2, 13, .inl g2)), (td, .inl (cy 2, 13, .inl g3))]) S9 (c_X4_readPlugSign l G cy sc tx kd fs sd td LN n (sg f LN 32 (dgX f LN (wd f LN wLug x))) f hL (sg_le (by decide) (dgX_le (wd_le _ (by decide) hx))) hcz) (cwV 0 hts gX4_readPlugOrPour_X4_readPlugSign rfl rfl rfl (by decide +kernel) ⟨Nat.le_of_ble_eq_true rfl, Nat.le_of_ble_eq_true rfl⟩) PB.blind (va_recv hK.1 hP (ci := 8) (q0 := 0) rfl rfl) (PB.at hK (m_Ppart hP [0, 1] rfl)) hP hD hS [0, 1] rfl rfl m_f2 rfl rfl hl.1 rfl (Nat.le_of_ble_eq_true rfl) ⟨Nat.zero_le _, Nat.zero_le _⟩ dX4_readPlugOrPour_30 (fun H locs hP hD hS => ?_)
    refine lv_iconst (v := 0) hxq hb dX4_readPlugOrPour_33 (by decide) ?_
    refine c_wcVv (ws' := [(sc, .inr (8, [.ref tx, .int (nI LN), .int (nI (psX f LN (sg f LN 32 (dgX f LN (wd f LN wLug x)))).1), .int (bI (psX f LN (sg f LN 32 (dgX f LN (wd f LN wLug x)))).2), .int (nI (adN (psX f LN (sg f LN 32 (dgX f LN (wd f LN wLug x)))) n)), .ref kd, .ref fs, .ref sd, .ref td])), (tx, .inl (cy 1, 60, .inl f)), (kd, .inl (cy 2, 13, .inl (adF (psX f LN (sg f LN 32 (dgX f LN (wd f LN wLug x)))) n gk 2))), (fs, .inl (cy 2, 13, .inl (adF (psX f LN (sg f LN 32 (dgX f LN (wd f LN wLug x)))) n g1 (dgV f LN (wd f LN wLug x))))), (sd, .inl (cy 2, 13, .inl (adF (psX f LN (sg f LN 32 (dgX f LN (wd f LN wLug x)))) n g2 (psV f LN (sg f LN 32 (dgX f LN (wd f LN wLug x))))))), (td, .inl (cy 2, 13, .inl (adF (psX f LN (sg f LN 32 (dgX f LN (wd f LN wLug x)))) n g3 0)))]) S9 (c_X4_addCommand l G cy sc tx kd fs sd td LN n (psX f LN (sg f LN 32 (dgX f LN (wd f LN wLug x)))) gk g1 g2 g3 2 (dgV f LN (wd f LN wLug x)) (psV f LN (sg f LN 32 (dgX f LN (wd f LN wLug x)))) 0 (by omega)) (cwV 4 hts gX4_readPlugOrPour_X4_addCommand rfl rfl rfl (by decide +kernel) ⟨Nat.le_of_ble_eq_true rfl, Nat.le_of_ble_eq_true rfl⟩) PB.blind (va_recv hK.1 hP (ci := 8) (q0 := 0) rfl rfl) (PB.at hK (m_Ppart hP [0, 2, 3, 4, 5] rfl)) hP hD hS [0, 2, 3, 4, 5] rfl rfl m_f5 rfl rfl hl.1 rfl (Nat.le_of_ble_eq_true rfl) ⟨Nat.zero_le _, Nat.zero_le _⟩ dX4_readPlugOrPour_34 (fun H locs hP hD hS => ?_)
    refine lv_goto (tgt := 79) hxq hb dX4_readPlugOrPour_37 (by decide) ?_
    have e9 : pluC f LN x = ((psX f LN (sg f LN 32 (dgX f LN (wd f LN wLug x)))), 2, (dgV f LN (wd f LN wLug x)), (psV f LN (sg f LN 32 (dgX f LN (wd f LN wLug x)))), 0) := (if_pos c_1)
    exact wc_vret hxq hb hr hlocks (by rw [e9]; (try dsimp only); exact hP) hS dX4_readPlugOrPour_79

set_option maxRecDepth 100000 in
set_option maxHeartbeats 1000000 in
theorem c_X4_readDuck (l : Launch) (G : va_G) (cy : Nat → ClassId) (kS vS : Nat → Nat) (sc tx kd fs sd td LN n : Nat) (x : Lx) (f gk g1 g2 g3 : Nat → Int32) (hL : LN ≤ 60) (hx : x.1 ≤ LN) (hcz : czN 60 f) (hn : n ≤ 13) : WC l yX4_readDuck wsX4_readDuck { frames := 5, cells := 0, slots := 0, locals := 107 } G (PS G cy kS vS [(sc, .inr (8, [.ref tx, .int (nI LN), .int (nI x.1), .int (bI x.2), .int (nI n), .ref kd, .ref fs, .ref sd, .ref td])), (tx, .inl (cy 1, 60, .inl f)), (kd, .inl (cy 2, 13, .inl gk)), (fs, .inl (cy 2, 13, .inl g1)), (sd, .inl (cy 2, 13, .inl g2)), (td, .inl (cy 2, 13, .inl g3))]) [.ref sc] [(sc, .inr (8, [.ref tx, .int (nI LN), .int (nI x.1), .int (bI x.2), .int (nI n), .ref kd, .ref fs, .ref sd, .ref td])), (tx, .inl (cy 1, 60, .inl f)), (kd, .inl (cy 2, 13, .inl gk)), (fs, .inl (cy 2, 13, .inl g1)), (sd, .inl (cy 2, 13, .inl g2)), (td, .inl (cy 2, 13, .inl g3))] [(sc, .inr (8, [.ref tx, .int (nI LN), .int (nI ((dukC f LN x).1.1)), .int (bI (dukC f LN x).1.2), .int (nI (adN (dukC f LN x).1 n)), .ref kd, .ref fs, .ref sd, .ref td])), (tx, .inl (cy 1, 60, .inl f)), (kd, .inl (cy 2, 13, .inl (adF (dukC f LN x).1 n gk (dukC f LN x).2.1))), (fs, .inl (cy 2, 13, .inl (adF (dukC f LN x).1 n g1 (dukC f LN x).2.2.1))), (sd, .inl (cy 2, 13, .inl (adF (dukC f LN x).1 n g2 (dukC f LN x).2.2.2.1))), (td, .inl (cy 2, 13, .inl (adF (dukC f LN x).1 n g3 (dukC f LN x).2.2.2.2)))] (none) := by
  refine WC.ofW (cc := cX4_readDuck) (maxL := 3) (ret := none) (by decide) rfl (Nat.le_of_ble_eq_true rfl) ?_
  intro p e s m below meth cq S9 hr hlocks hPB hD hS ls hl
  obtain ⟨hxq, hb, hml, hown, hts⟩ := id S9
  obtain ⟨⟨hP, hK⟩, hSK⟩ := hPB
  have hl : lv_has ls 3 [(0, .ref sc)] := hl
  refine lv_aload_n hxq hb dX4_readDuck_0 rfl (lv_at hl 0 rfl) ?_
  refine va_ldcS hxq hb hown (hSK.2.1 7 (by decide)) dX4_readDuck_1 ?_
  refine c_wcVv (ws' := [(sc, .inr (8, [.ref tx, .int (nI LN), .int (nI ((wd f LN (ltS 7) x).1)), .int (bI (wd f LN (ltS 7) x).2), .int (nI n), .ref kd, .ref fs, .ref sd, .ref td])), (tx, .inl (cy 1, 60, .inl f)), (kd, .inl (cy 2, 13, .inl gk)), (fs, .inl (cy 2, 13, .inl g1)), (sd, .inl (cy 2, 13, .inl g2)), (td, .inl (cy 2, 13, .inl g3))]) S9 (c_X4_readWord l G cy kS vS sc tx kd fs sd td LN n x f 7 hL hx hcz (by first | assumption | decide)) (cwV 1 hts gX4_readDuck_X4_readWord rfl rfl rfl (by decide +kernel) ⟨Nat.le_of_ble_eq_true rfl, Nat.le_of_ble_eq_true rfl⟩) PS.blind (va_recv hK.1 hP (ci := 8) (q0 := 0) rfl rfl) (PS.at hSK hS (wA_sub hD [0, 1] rfl) hK (m_Ppart hP [0, 1] rfl)) hP hD hS [0, 1] rfl rfl m_f2 rfl rfl hl.1 rfl (Nat.le_of_ble_eq_true rfl) ⟨Nat.zero_le _, Nat.zero_le _⟩ dX4_readDuck_3 (fun H locs hP hD hS => ?_)
  have hP : va_P G vwCl [(sc, .inr (8, [.ref tx, .int (nI LN), .int (nI ((wd f LN wDuck x).1)), .int (bI (wd f LN wDuck x).2), .int (nI n), .ref kd, .ref fs, .ref sd, .ref td])), (tx, .inl (cy 1, 60, .inl f)), (kd, .inl (cy 2, 13, .inl gk)), (fs, .inl (cy 2, 13, .inl g1)), (sd, .inl (cy 2, 13, .inl g2)), (td, .inl (cy 2, 13, .inl g3))] H := hP
  have hD : va_D (wA [(sc, .inr (8, [.ref tx, .int (nI LN), .int (nI x.1), .int (bI x.2), .int (nI n), .ref kd, .ref fs, .ref sd, .ref td])), (tx, .inl (cy 1, 60, .inl f)), (kd, .inl (cy 2, 13, .inl gk)), (fs, .inl (cy 2, 13, .inl g1)), (sd, .inl (cy 2, 13, .inl g2)), (td, .inl (cy 2, 13, .inl g3))]) [(sc, .inr (8, [.ref tx, .int (nI LN), .int (nI ((wd f LN wDuck x).1)), .int (bI (wd f LN wDuck x).2), .int (nI n), .ref kd, .ref fs, .ref sd, .ref td])), (tx, .inl (cy 1, 60, .inl f)), (kd, .inl (cy 2, 13, .inl gk)), (fs, .inl (cy 2, 13, .inl g1)), (sd, .inl (cy 2, 13, .inl g2)), (td, .inl (cy 2, 13, .inl g3))] := hD
  refine lv_aload_n hxq hb dX4_readDuck_6 rfl (lv_at hl 0 rfl) ?_
  refine c_wcVi (ws' := [(sc, .inr (8, [.ref tx, .int (nI LN), .int (nI ((dgX f LN (wd f LN wDuck x)).1)), .int (bI (dgX f LN (wd f LN wDuck x)).2), .int (nI n), .ref kd, .ref fs, .ref sd, .ref td])), (tx, .inl (cy 1, 60, .inl f)), (kd, .inl (cy 2, 13, .inl gk)), (fs, .inl (cy 2, 13, .inl g1)), (sd, .inl (cy 2, 13, .inl g2)), (td, .inl (cy 2, 13, .inl g3))]) S9 (c_X4_readDigit l G cy sc tx kd fs sd td LN n (wd f LN wDuck x) f hL (wd_le _ (by decide) hx) hcz) (cwV 0 hts gX4_readDuck_X4_readDigit rfl rfl rfl (by decide +kernel) ⟨Nat.le_of_ble_eq_true rfl, Nat.le_of_ble_eq_true rfl⟩) PB.blind (va_recv hK.1 hP (ci := 8) (q0 := 0) rfl rfl) (PB.at hK (m_Ppart hP [0, 1] rfl)) hP hD hS [0, 1] rfl rfl m_f2 rfl rfl hl.1 rfl (Nat.le_of_ble_eq_true rfl) ⟨Nat.zero_le _, Nat.zero_le _⟩ dX4_readDuck_7 (fun H locs hP hD hS => ?_)
  refine lv_istore_n (lv' := [(1, .int (dgV f LN (wd f LN wDuck x))), (0, .ref sc)]) hxq hb dX4_readDuck_10 rfl hl (by decide) rfl (fun ls hl => ?_)
  refine lv_aload_n hxq hb dX4_readDuck_11 rfl (lv_at hl 1 rfl) ?_
  refine lv_bipush (v := 32) hxq hb dX4_readDuck_12 (by decide) ?_
  refine c_wcVv (ws' := [(sc, .inr (8, [.ref tx, .int (nI LN), .int (nI ((sg f LN 32 (dgX f LN (wd f LN wDuck x))).1)), .int (bI (sg f LN 32 (dgX f LN (wd f LN wDuck x))).2), .int (nI n), .ref kd, .ref fs, .ref sd, .ref td])), (tx, .inl (cy 1, 60, .inl f)), (kd, .inl (cy 2, 13, .inl gk)), (fs, .inl (cy 2, 13, .inl g1)), (sd, .inl (cy 2, 13, .inl g2)), (td, .inl (cy 2, 13, .inl g3))]) S9 (c_X4_readSign l G cy sc tx kd fs sd td LN n (dgX f LN (wd f LN wDuck x)) f 32 hL (dgX_le (wd_le _ (by decide) hx)) hcz (by decide)) (cwV 1 hts gX4_readDuck_X4_readSign rfl rfl rfl (by decide +kernel) ⟨Nat.le_of_ble_eq_true rfl, Nat.le_of_ble_eq_true rfl⟩) PB.blind (va_recv hK.1 hP (ci := 8) (q0 := 0) rfl rfl) (PB.at hK (m_Ppart hP [0, 1] rfl)) hP hD hS [0, 1] rfl rfl m_f2 rfl rfl hl.1 rfl (Nat.le_of_ble_eq_true rfl) ⟨Nat.zero_le _, Nat.zero_le _⟩ dX4_readDuck_14 (fun H locs hP hD hS => ?_)
  refine lv_aload_n hxq hb dX4_readDuck_17 rfl (lv_at hl 1 rfl) ?_
  refine c_wcVi (ws' := [(sc, .inr (8, [.ref tx, .int (nI LN), .int (nI ((nmX f LN (sg f LN 32 (dgX f LN (wd f LN wDuck x)))).1)), .int (bI (nmX f LN (sg f LN 32 (dgX f LN (wd f LN wDuck x)))).2), .int (nI n), .ref kd, .ref fs, .ref sd, .ref td])), (tx, .inl (cy 1, 60, .inl f)), (kd, .inl (cy 2, 13, .inl gk)), (fs, .inl (cy 2, 13, .inl g1)), (sd, .inl (cy 2, 13, .inl g2)), (td, .inl (cy 2, 13, .inl g3))]) S9 (c_X4_readNumber l G cy sc tx kd fs sd td LN n (sg f LN 32 (dgX f LN (wd f LN wDuck x))) f hL (sg_le (by decide) (dgX_le (wd_le _ (by decide) hx))) hcz) (cwV 0 hts gX4_readDuck_X4_readNumber rfl rfl rfl (by decide +kernel) ⟨Nat.le_of_ble_eq_true rfl, Nat.le_of_ble_eq_true rfl⟩) PB.blind (va_recv hK.1 hP (ci := 8) (q0 := 0) rfl rfl) (PB.at hK (m_Ppart hP [0, 1] rfl)) hP hD hS [0, 1] rfl rfl m_f2 rfl rfl hl.1 rfl (Nat.le_of_ble_eq_true rfl) ⟨Nat.zero_le _, Nat.zero_le _⟩ dX4_readDuck_18 (fun H locs hP hD hS => ?_)
  refine lv_istore_n (lv' := [(2, .int (nmV f LN (sg f LN 32 (dgX f LN (wd f LN wDuck x))))), (1, .int (dgV f LN (wd f LN wDuck x))), (0, .ref sc)]) hxq hb dX4_readDuck_21 rfl hl (by decide) rfl (fun ls hl => ?_)
  refine lv_aload_n hxq hb dX4_readDuck_22 rfl (lv_at hl 2 rfl) ?_
  refine lv_bipush (v := 32) hxq hb dX4_readDuck_23 (by decide) ?_
  refine c_wcVv (ws' := [(sc, .inr (8, [.ref tx, .int (nI LN), .int (nI ((sg f LN 32 (nmX f LN (sg f LN 32 (dgX f LN (wd f LN wDuck x))))).1)), .int (bI (sg f LN 32 (nmX f LN (sg f LN 32 (dgX f LN (wd f LN wDuck x))))).2), .int (nI n), .ref kd, .ref fs, .ref sd, .ref td])), (tx, .inl (cy 1, 60, .inl f)), (kd, .inl (cy 2, 13, .inl gk)), (fs, .inl (cy 2, 13, .inl g1)), (sd, .inl (cy 2, 13, .inl g2)), (td, .inl (cy 2, 13, .inl g3))]) S9 (c_X4_readSign l G cy sc tx kd fs sd td LN n (nmX f LN (sg f LN 32 (dgX f LN (wd f LN wDuck x)))) f 32 hL (nmX_le (sg_le (by decide) (dgX_le (wd_le _ (by decide) hx)))) hcz (by decide)) (cwV 1 hts gX4_readDuck_X4_readSign rfl rfl rfl (by decide +kernel) ⟨Nat.le_of_ble_eq_true rfl, Nat.le_of_ble_eq_true rfl⟩) PB.blind (va_recv hK.1 hP (ci := 8) (q0 := 0) rfl rfl) (PB.at hK (m_Ppart hP [0, 1] rfl)) hP hD hS [0, 1] rfl rfl m_f2 rfl rfl hl.1 rfl (Nat.le_of_ble_eq_true rfl) ⟨Nat.zero_le _, Nat.zero_le _⟩ dX4_readDuck_25 (fun H locs hP hD hS => ?_)
  refine lv_aload_n hxq hb dX4_readDuck_28 rfl (lv_at hl 2 rfl) ?_
  refine lv_iconst (v := 4) hxq hb dX4_readDuck_29 (by decide) ?_
  refine lv_iload_n hxq hb dX4_readDuck_30 rfl (lv_at hl 1 rfl) ?_
  refine lv_iload_n hxq hb dX4_readDuck_31 rfl (lv_at hl 0 rfl) ?_
  refine lv_aload_n hxq hb dX4_readDuck_32 rfl (lv_at hl 2 rfl) ?_
  refine c_wcVi (ws' := [(sc, .inr (8, [.ref tx, .int (nI LN), .int (nI ((nmX f LN (sg f LN 32 (nmX f LN (sg f LN 32 (dgX f LN (wd f LN wDuck x)))))).1)), .int (bI (nmX f LN (sg f LN 32 (nmX f LN (sg f LN 32 (dgX f LN (wd f LN wDuck x)))))).2), .int (nI n), .ref kd, .ref fs, .ref sd, .ref td])), (tx, .inl (cy 1, 60, .inl f)), (kd, .inl (cy 2, 13, .inl gk)), (fs, .inl (cy 2, 13, .inl g1)), (sd, .inl (cy 2, 13, .inl g2)), (td, .inl (cy 2, 13, .inl g3))]) S9 (c_X4_readNumber l G cy sc tx kd fs sd td LN n (sg f LN 32 (nmX f LN (sg f LN 32 (dgX f LN (wd f LN wDuck x))))) f hL (sg_le (by decide) (nmX_le (sg_le (by decide) (dgX_le (wd_le _ (by decide) hx))))) hcz) (cwV 0 hts gX4_readDuck_X4_readNumber rfl rfl rfl (by decide +kernel) ⟨Nat.le_of_ble_eq_true rfl, Nat.le_of_ble_eq_true rfl⟩) PB.blind (va_recv hK.1 hP (ci := 8) (q0 := 0) rfl rfl) (PB.at hK (m_Ppart hP [0, 1] rfl)) hP hD hS [0, 1] rfl rfl m_f2 rfl rfl hl.1 rfl (Nat.le_of_ble_eq_true rfl) ⟨Nat.zero_le _, Nat.zero_le _⟩ dX4_readDuck_33 (fun H locs hP hD hS => ?_)
  refine c_wcVv (ws' := [(sc, .inr (8, [.ref tx, .int (nI LN), .int (nI (nmX f LN (sg f LN 32 (nmX f LN (sg f LN 32 (dgX f LN (wd f LN wDuck x)))))).1), .int (bI (nmX f LN (sg f LN 32 (nmX f LN (sg f LN 32 (dgX f LN (wd f LN wDuck x)))))).2), .int (nI (adN (nmX f LN (sg f LN 32 (nmX f LN (sg f LN 32 (dgX f LN (wd f LN wDuck x)))))) n)), .ref kd, .ref fs, .ref sd, .ref td])), (tx, .inl (cy 1, 60, .inl f)), (kd, .inl (cy 2, 13, .inl (adF (nmX f LN (sg f LN 32 (nmX f LN (sg f LN 32 (dgX f LN (wd f LN wDuck x)))))) n gk 4))), (fs, .inl (cy 2, 13, .inl (adF (nmX f LN (sg f LN 32 (nmX f LN (sg f LN 32 (dgX f LN (wd f LN wDuck x)))))) n g1 (dgV f LN (wd f LN wDuck x))))), (sd, .inl (cy 2, 13, .inl (adF (nmX f LN (sg f LN 32 (nmX f LN (sg f LN 32 (dgX f LN (wd f LN wDuck x)))))) n g2 (nmV f LN (sg f LN 32 (dgX f LN (wd f LN wDuck x))))))), (td, .inl (cy 2, 13, .inl (adF (nmX f LN (sg f LN 32 (nmX f LN (sg f LN 32 (dgX f LN (wd f LN wDuck x)))))) n g3 (nmV f LN (sg f LN 32 (nmX f LN (sg f LN 32 (dgX f LN (wd f LN wDuck x)))))))))]) S9 (c_X4_addCommand l G cy sc tx kd fs sd td LN n (nmX f LN (sg f LN 32 (nmX f LN (sg f LN 32 (dgX f LN (wd f LN wDuck x)))))) gk g1 g2 g3 4 (dgV f LN (wd f LN wDuck x)) (nmV f LN (sg f LN 32 (dgX f LN (wd f LN wDuck x)))) (nmV f LN (sg f LN 32 (nmX f LN (sg f LN 32 (dgX f LN (wd f LN wDuck x)))))) (by omega)) (cwV 4 hts gX4_readDuck_X4_addCommand rfl rfl rfl (by decide +kernel) ⟨Nat.le_of_ble_eq_true rfl, Nat.le_of_ble_eq_true rfl⟩) PB.blind (va_recv hK.1 hP (ci := 8) (q0 := 0) rfl rfl) (PB.at hK (m_Ppart hP [0, 2, 3, 4, 5] rfl)) hP hD hS [0, 2, 3, 4, 5] rfl rfl m_f5 rfl rfl hl.1 rfl (Nat.le_of_ble_eq_true rfl) ⟨Nat.zero_le _, Nat.zero_le _⟩ dX4_readDuck_36 (fun H locs hP hD hS => ?_)
  have e9 : dukC f LN x = ((nmX f LN (sg f LN 32 (nmX f LN (sg f LN 32 (dgX f LN (wd f LN wDuck x)))))), 4, (dgV f LN (wd f LN wDuck x)), (nmV f LN (sg f LN 32 (dgX f LN (wd f LN wDuck x)))), (nmV f LN (sg f LN 32 (nmX f LN (sg f LN 32 (dgX f LN (wd f LN wDuck x))))))) := rfl
  exact wc_vret hxq hb hr hlocks (by rw [e9]; (try dsimp only); exact hP) hS dX4_readDuck_39

set_option maxRecDepth 100000 in
set_option maxHeartbeats 1000000 in
theorem c_X4_readCommand (l : Launch) (G : va_G) (cy : Nat → ClassId) (kS vS : Nat → Nat) (sc tx kd fs sd td LN n : Nat) (x : Lx) (f gk g1 g2 g3 : Nat → Int32) (hL : LN ≤ 60) (hx : x.1 ≤ LN) (hcz : czN 60 f) (hn : n ≤ 13) : WC l yX4_readCommand wsX4_readCommand { frames := 6, cells := 0, slots := 0, locals := 129 } G (PS G cy kS vS [(sc, .inr (8, [.ref tx, .int (nI LN), .int (nI x.1), .int (bI x.2), .int (nI n), .ref kd, .ref fs, .ref sd, .ref td])), (tx, .inl (cy 1, 60, .inl f)), (kd, .inl (cy 2, 13, .inl gk)), (fs, .inl (cy 2, 13, .inl g1)), (sd, .inl (cy 2, 13, .inl g2)), (td, .inl (cy 2, 13, .inl g3))]) [.ref sc] [(sc, .inr (8, [.ref tx, .int (nI LN), .int (nI x.1), .int (bI x.2), .int (nI n), .ref kd, .ref fs, .ref sd, .ref td])), (tx, .inl (cy 1, 60, .inl f)), (kd, .inl (cy 2, 13, .inl gk)), (fs, .inl (cy 2, 13, .inl g1)), (sd, .inl (cy 2, 13, .inl g2)), (td, .inl (cy 2, 13, .inl g3))] [(sc, .inr (8, [.ref tx, .int (nI LN), .int (nI ((cmd f LN x).1.1)), .int (bI (cmd f LN x).1.2), .int (nI (adN (cmd f LN x).1 n)), .ref kd, .ref fs, .ref sd, .ref td])), (tx, .inl (cy 1, 60, .inl f)), (kd, .inl (cy 2, 13, .inl (adF (cmd f LN x).1 n gk (cmd f LN x).2.1))), (fs, .inl (cy 2, 13, .inl (adF (cmd f LN x).1 n g1 (cmd f LN x).2.2.1))), (sd, .inl (cy 2, 13, .inl (adF (cmd f LN x).1 n g2 (cmd f LN x).2.2.2.1))), (td, .inl (cy 2, 13, .inl (adF (cmd f LN x).1 n g3 (cmd f LN x).2.2.2.2)))] (none) := by
  refine WC.ofW (cc := cX4_readCommand) (maxL := 1) (ret := none) (by decide) rfl (Nat.le_of_ble_eq_true rfl) ?_
  intro p e s m below meth cq S9 hr hlocks hPB hD hS ls hl
  obtain ⟨hxq, hb, hml, hown, hts⟩ := id S9
  obtain ⟨⟨hP, hK⟩, hSK⟩ := hPB
  have hl : lv_has ls 1 [(0, .ref sc)] := hl
  have hi8 : ∀ w ∈ wsX40, w ∈ wsX4_readCommand := by decide +kernel
  have hf22 := hts (.fieldLink RX4 22 "BathLeague$Script" "malformed" "Z") (by decide +kernel)
  refine lv_aload_n hxq hb dX4_readCommand_0 rfl (lv_at hl 0 rfl) ?_
  refine c_roVi S9 (c_X4_peek l G cy sc tx kd fs sd td LN n x f hL hx hcz) (cwV 0 hts gX4_readCommand_X4_peek rfl rfl rfl (by decide +kernel) ⟨Nat.le_of_ble_eq_true rfl, Nat.le_of_ble_eq_true rfl⟩) PB.blind (va_recv hK.1 hP (ci := 8) (q0 := 0) rfl rfl) (PB.at hK (m_Ppart hP [0, 1] rfl)) rfl hl.1 rfl (Nat.le_of_ble_eq_true rfl) ⟨Nat.zero_le _, Nat.zero_le _⟩ dX4_readCommand_1 ?_
  by_cases s_0 : pk f LN x = 98
  · refine lv_t0 s_0 ?_
    refine lv_tableIn (off := 92) (tgt := 96) hxq hb dX4_readCommand_4 (by decide) (by decide) (by decide) (by decide) ?_
    refine lv_aload_n hxq hb dX4_readCommand_96 rfl (lv_at hl 0 rfl) ?_
    refine va_ldcS hxq hb hown (hSK.2.1 0 (by decide)) dX4_readCommand_97 ?_
    refine c_wcVv (ws' := [(sc, .inr (8, [.ref tx, .int (nI LN), .int (nI ((wd f LN (ltS 0) x).1)), .int (bI (wd f LN (ltS 0) x).2), .int (nI n), .ref kd, .ref fs, .ref sd, .ref td])), (tx, .inl (cy 1, 60, .inl f)), (kd, .inl (cy 2, 13, .inl gk)), (fs, .inl (cy 2, 13, .inl g1)), (sd, .inl (cy 2, 13, .inl g2)), (td, .inl (cy 2, 13, .inl g3))]) S9 (c_X4_readWord l G cy kS vS sc tx kd fs sd td LN n x f 0 hL hx hcz (by first | assumption | decide)) (cwV 1 hts gX4_readCommand_X4_readWord rfl rfl rfl (by decide +kernel) ⟨Nat.le_of_ble_eq_true rfl, Nat.le_of_ble_eq_true rfl⟩) PS.blind (va_recv hK.1 hP (ci := 8) (q0 := 0) rfl rfl) (PS.at hSK hS (wA_sub hD [0, 1] rfl) hK (m_Ppart hP [0, 1] rfl)) hP hD hS [0, 1] rfl rfl m_f2 rfl rfl hl.1 rfl (Nat.le_of_ble_eq_true rfl) ⟨Nat.zero_le _, Nat.zero_le _⟩ dX4_readCommand_99 (fun H locs hP hD hS => ?_)
    have hP : va_P G vwCl [(sc, .inr (8, [.ref tx, .int (nI LN), .int (nI ((wd f LN wBath x).1)), .int (bI (wd f LN wBath x).2), .int (nI n), .ref kd, .ref fs, .ref sd, .ref td])), (tx, .inl (cy 1, 60, .inl f)), (kd, .inl (cy 2, 13, .inl gk)), (fs, .inl (cy 2, 13, .inl g1)), (sd, .inl (cy 2, 13, .inl g2)), (td, .inl (cy 2, 13, .inl g3))] H := hP
    have hD : va_D (wA [(sc, .inr (8, [.ref tx, .int (nI LN), .int (nI x.1), .int (bI x.2), .int (nI n), .ref kd, .ref fs, .ref sd, .ref td])), (tx, .inl (cy 1, 60, .inl f)), (kd, .inl (cy 2, 13, .inl gk)), (fs, .inl (cy 2, 13, .inl g1)), (sd, .inl (cy 2, 13, .inl g2)), (td, .inl (cy 2, 13, .inl g3))]) [(sc, .inr (8, [.ref tx, .int (nI LN), .int (nI ((wd f LN wBath x).1)), .int (bI (wd f LN wBath x).2), .int (nI n), .ref kd, .ref fs, .ref sd, .ref td])), (tx, .inl (cy 1, 60, .inl f)), (kd, .inl (cy 2, 13, .inl gk)), (fs, .inl (cy 2, 13, .inl g1)), (sd, .inl (cy 2, 13, .inl g2)), (td, .inl (cy 2, 13, .inl g3))] := hD
    refine lv_aload_n hxq hb dX4_readCommand_102 rfl (lv_at hl 0 rfl) ?_
    refine lv_iconst (v := 0) hxq hb dX4_readCommand_103 (by decide) ?_
    refine lv_iconst (v := 0) hxq hb dX4_readCommand_104 (by decide) ?_
    refine lv_iconst (v := 0) hxq hb dX4_readCommand_105 (by decide) ?_
    refine lv_iconst (v := 0) hxq hb dX4_readCommand_106 (by decide) ?_
    refine c_wcVv (ws' := [(sc, .inr (8, [.ref tx, .int (nI LN), .int (nI (wd f LN wBath x).1), .int (bI (wd f LN wBath x).2), .int (nI (adN (wd f LN wBath x) n)), .ref kd, .ref fs, .ref sd, .ref td])), (tx, .inl (cy 1, 60, .inl f)), (kd, .inl (cy 2, 13, .inl (adF (wd f LN wBath x) n gk 0))), (fs, .inl (cy 2, 13, .inl (adF (wd f LN wBath x) n g1 0))), (sd, .inl (cy 2, 13, .inl (adF (wd f LN wBath x) n g2 0))), (td, .inl (cy 2, 13, .inl (adF (wd f LN wBath x) n g3 0)))]) S9 (c_X4_addCommand l G cy sc tx kd fs sd td LN n (wd f LN wBath x) gk g1 g2 g3 0 0 0 0 (by omega)) (cwV 4 hts gX4_readCommand_X4_addCommand rfl rfl rfl (by decide +kernel) ⟨Nat.le_of_ble_eq_true rfl, Nat.le_of_ble_eq_true rfl⟩) PB.blind (va_recv hK.1 hP (ci := 8) (q0 := 0) rfl rfl) (PB.at hK (m_Ppart hP [0, 2, 3, 4, 5] rfl)) hP hD hS [0, 2, 3, 4, 5] rfl rfl m_f5 rfl rfl hl.1 rfl (Nat.le_of_ble_eq_true rfl) ⟨Nat.zero_le _, Nat.zero_le _⟩ dX4_readCommand_107 (fun H locs hP hD hS => ?_)
    refine lv_goto (tgt := 192) hxq hb dX4_readCommand_110 (by decide) ?_
    have e9 : cmd f LN x = ((wd f LN wBath x), 0, 0, 0, 0) := (if_pos s_0)
    exact wc_vret hxq hb hr hlocks (by rw [e9]; (try dsimp only); exact hP) hS dX4_readCommand_192
  · by_cases s_1 : pk f LN x = 116
    · refine lv_t0 s_1 ?_
      refine lv_tableIn (off := 109) (tgt := 113) hxq hb dX4_readCommand_4 (by decide) (by decide) (by decide) (by decide) ?_
      refine lv_aload_n hxq hb dX4_readCommand_113 rfl (lv_at hl 0 rfl) ?_
      refine lv_bipush (v := 116) hxq hb dX4_readCommand_114 (by decide) ?_
      refine c_wcVv (ws' := [(sc, .inr (8, [.ref tx, .int (nI LN), .int (nI ((sg f LN 116 x).1)), .int (bI (sg f LN 116 x).2), .int (nI n), .ref kd, .ref fs, .ref sd, .ref td])), (tx, .inl (cy 1, 60, .inl f)), (kd, .inl (cy 2, 13, .inl gk)), (fs, .inl (cy 2, 13, .inl g1)), (sd, .inl (cy 2, 13, .inl g2)), (td, .inl (cy 2, 13, .inl g3))]) S9 (c_X4_readSign l G cy sc tx kd fs sd td LN n x f 116 hL hx hcz (by decide)) (cwV 1 hts gX4_readCommand_X4_readSign rfl rfl rfl (by decide +kernel) ⟨Nat.le_of_ble_eq_true rfl, Nat.le_of_ble_eq_true rfl⟩) PB.blind (va_recv hK.1 hP (ci := 8) (q0 := 0) rfl rfl) (PB.at hK (m_Ppart hP [0, 1] rfl)) hP hD hS [0, 1] rfl rfl m_f2 rfl rfl hl.1 rfl (Nat.le_of_ble_eq_true rfl) ⟨Nat.zero_le _, Nat.zero_le _⟩ dX4_readCommand_116 (fun H locs hP hD hS => ?_)
      refine lv_aload_n hxq hb dX4_readCommand_119 rfl (lv_at hl 0 rfl) ?_
      refine c_wcVv (ws' := [(sc, .inr (8, [.ref tx, .int (nI LN), .int (nI ((tapC f LN (sg f LN 116 x)).1.1)), .int (bI (tapC f LN (sg f LN 116 x)).1.2), .int (nI (adN (tapC f LN (sg f LN 116 x)).1 n)), .ref kd, .ref fs, .ref sd, .ref td])), (tx, .inl (cy 1, 60, .inl f)), (kd, .inl (cy 2, 13, .inl (adF (tapC f LN (sg f LN 116 x)).1 n gk (tapC f LN (sg f LN 116 x)).2.1))), (fs, .inl (cy 2, 13, .inl (adF (tapC f LN (sg f LN 116 x)).1 n g1 (tapC f LN (sg f LN 116 x)).2.2.1))), (sd, .inl (cy 2, 13, .inl (adF (tapC f LN (sg f LN 116 x)).1 n g2 (tapC f LN (sg f LN 116 x)).2.2.2.1))), (td, .inl (cy 2, 13, .inl (adF (tapC f LN (sg f LN 116 x)).1 n g3 (tapC f LN (sg f LN 116 x)).2.2.2.2)))]) S9 (c_X4_readTapOrTick l G cy kS vS sc tx kd fs sd td LN n (sg f LN 116 x) f gk g1 g2 g3 hL (sg_le (by decide) hx) hcz (by omega)) (cwV 0 hts gX4_readCommand_X4_readTapOrTick rfl rfl rfl (by decide +kernel) ⟨Nat.le_of_ble_eq_true rfl, Nat.le_of_ble_eq_true rfl⟩) PS.blind (va_recv hK.1 hP (ci := 8) (q0 := 0) rfl rfl) (PS.at hSK hS (wA_sub hD [0, 1, 2, 3, 4, 5] rfl) hK (m_Ppart hP [0, 1, 2, 3, 4, 5] rfl)) hP hD hS [0, 1, 2, 3, 4, 5] rfl rfl m_f6 rfl rfl hl.1 rfl (Nat.le_of_ble_eq_true rfl) ⟨Nat.zero_le _, Nat.zero_le _⟩ dX4_readCommand_120 (fun H locs hP hD hS => ?_)
      refine lv_goto (tgt := 192) hxq hb dX4_readCommand_123 (by decide) ?_
      have e9 : cmd f LN x = (tapC f LN (sg f LN 116 x)) := ((if_neg s_0).trans (if_pos s_1))
      exact wc_vret hxq hb hr hlocks (by rw [e9]; (try dsimp only); exact hP) hS dX4_readCommand_192
    · by_cases s_2 : pk f LN x = 112
      · refine lv_t0 s_2 ?_
        refine lv_tableIn (off := 122) (tgt := 126) hxq hb dX4_readCommand_4 (by decide) (by decide) (by decide) (by decide) ?_
        refine lv_aload_n hxq hb dX4_readCommand_126 rfl (lv_at hl 0 rfl) ?_
        refine lv_bipush (v := 112) hxq hb dX4_readCommand_127 (by decide) ?_
        refine c_wcVv (ws' := [(sc, .inr (8, [.ref tx, .int (nI LN), .int (nI ((sg f LN 112 x).1)), .int (bI (sg f LN 112 x).2), .int (nI n), .ref kd, .ref fs, .ref sd, .ref td])), (tx, .inl (cy 1, 60, .inl f)), (kd, .inl (cy 2, 13, .inl gk)), (fs, .inl (cy 2, 13, .inl g1)), (sd, .inl (cy 2, 13, .inl g2)), (td, .inl (cy 2, 13, .inl g3))]) S9 (c_X4_readSign l G cy sc tx kd fs sd td LN n x f 112 hL hx hcz (by decide)) (cwV 1 hts gX4_readCommand_X4_readSign rfl rfl rfl (by decide +kernel) ⟨Nat.le_of_ble_eq_true rfl, Nat.le_of_ble_eq_true rfl⟩) PB.blind (va_recv hK.1 hP (ci := 8) (q0 := 0) rfl rfl) (PB.at hK (m_Ppart hP [0, 1] rfl)) hP hD hS [0, 1] rfl rfl m_f2 rfl rfl hl.1 rfl (Nat.le_of_ble_eq_true rfl) ⟨Nat.zero_le _, Nat.zero_le _⟩ dX4_readCommand_129 (fun H locs hP hD hS => ?_)
        refine lv_aload_n hxq hb dX4_readCommand_132 rfl (lv_at hl 0 rfl) ?_
        refine c_wcVv (ws' := [(sc, .inr (8, [.ref tx, .int (nI LN), .int (nI ((pluC f LN (sg f LN 112 x)).1.1)), .int (bI (pluC f LN (sg f LN 112 x)).1.2), .int (nI (adN (pluC f LN (sg f LN 112 x)).1 n)), .ref kd, .ref fs, .ref sd, .ref td])), (tx, .inl (cy 1, 60, .inl f)), (kd, .inl (cy 2, 13, .inl (adF (pluC f LN (sg f LN 112 x)).1 n gk (pluC f LN (sg f LN 112 x)).2.1))), (fs, .inl (cy 2, 13, .inl (adF (pluC f LN (sg f LN 112 x)).1 n g1 (pluC f LN (sg f LN 112 x)).2.2.1))), (sd, .inl (cy 2, 13, .inl (adF (pluC f LN (sg f LN 112 x)).1 n g2 (pluC f LN (sg f LN 112 x)).2.2.2.1))), (td, .inl (cy 2, 13, .inl (adF (pluC f LN (sg f LN 112 x)).1 n g3 (pluC f LN (sg f LN 112 x)).2.2.2.2)))]) S9 (c_X4_readPlugOrPour l G cy kS vS sc tx kd fs sd td LN n (sg f LN 112 x) f gk g1 g2 g3 hL (sg_le (by decide) hx) hcz (by omega)) (cwV 0 hts gX4_readCommand_X4_readPlugOrPour rfl rfl rfl (by decide +kernel) ⟨Nat.le_of_ble_eq_true rfl, Nat.le_of_ble_eq_true rfl⟩) PS.blind (va_recv hK.1 hP (ci := 8) (q0 := 0) rfl rfl) (PS.at hSK hS (wA_sub hD [0, 1, 2, 3, 4, 5] rfl) hK (m_Ppart hP [0, 1, 2, 3, 4, 5] rfl)) hP hD hS [0, 1, 2, 3, 4, 5] rfl rfl m_f6 rfl rfl hl.1 rfl (Nat.le_of_ble_eq_true rfl) ⟨Nat.zero_le _, Nat.zero_le _⟩ dX4_readCommand_133 (fun H locs hP hD hS => ?_)
        refine lv_goto (tgt := 192) hxq hb dX4_readCommand_136 (by decide) ?_
        have e9 : cmd f LN x = (pluC f LN (sg f LN 112 x)) := ((if_neg s_0).trans ((if_neg s_1).trans (if_pos s_2)))
        exact wc_vret hxq hb hr hlocks (by rw [e9]; (try dsimp only); exact hP) hS dX4_readCommand_192
      · by_cases s_3 : pk f LN x = 100
        · refine lv_t0 s_3 ?_
          refine lv_tableIn (off := 135) (tgt := 139) hxq hb dX4_readCommand_4 (by decide) (by decide) (by decide) (by decide) ?_
          refine lv_aload_n hxq hb dX4_readCommand_139 rfl (lv_at hl 0 rfl) ?_
          refine c_wcVv (ws' := [(sc, .inr (8, [.ref tx, .int (nI LN), .int (nI ((dukC f LN x).1.1)), .int (bI (dukC f LN x).1.2), .int (nI (adN (dukC f LN x).1 n)), .ref kd, .ref fs, .ref sd, .ref td])), (tx, .inl (cy 1, 60, .inl f)), (kd, .inl (cy 2, 13, .inl (adF (dukC f LN x).1 n gk (dukC f LN x).2.1))), (fs, .inl (cy 2, 13, .inl (adF (dukC f LN x).1 n g1 (dukC f LN x).2.2.1))), (sd, .inl (cy 2, 13, .inl (adF (dukC f LN x).1 n g2 (dukC f LN x).2.2.2.1))), (td, .inl (cy 2, 13, .inl (adF (dukC f LN x).1 n g3 (dukC f LN x).2.2.2.2)))]) S9 (c_X4_readDuck l G cy kS vS sc tx kd fs sd td LN n x f gk g1 g2 g3 hL hx hcz (by omega)) (cwV 0 hts gX4_readCommand_X4_readDuck rfl rfl rfl (by decide +kernel) ⟨Nat.le_of_ble_eq_true rfl, Nat.le_of_ble_eq_true rfl⟩) PS.blind (va_recv hK.1 hP (ci := 8) (q0 := 0) rfl rfl) (PS.at hSK hS (wA_sub hD [0, 1, 2, 3, 4, 5] rfl) hK (m_Ppart hP [0, 1, 2, 3, 4, 5] rfl)) hP hD hS [0, 1, 2, 3, 4, 5] rfl rfl m_f6 rfl rfl hl.1 rfl (Nat.le_of_ble_eq_true rfl) ⟨Nat.zero_le _, Nat.zero_le _⟩ dX4_readCommand_140 (fun H locs hP hD hS => ?_)
          refine lv_goto (tgt := 192) hxq hb dX4_readCommand_143 (by decide) ?_
          have e9 : cmd f LN x = (dukC f LN x) := ((if_neg s_0).trans ((if_neg s_1).trans ((if_neg s_2).trans (if_pos s_3))))
          exact wc_vret hxq hb hr hlocks (by rw [e9]; (try dsimp only); exact hP) hS dX4_readCommand_192
        · by_cases s_4 : pk f LN x = 106
          · refine lv_t0 s_4 ?_
            refine lv_tableIn (off := 142) (tgt := 146) hxq hb dX4_readCommand_4 (by decide) (by decide) (by decide) (by decide) ?_
            refine lv_aload_n hxq hb dX4_readCommand_146 rfl (lv_at hl 0 rfl) ?_
            refine va_ldcS hxq hb hown (hSK.2.1 1 (by decide)) dX4_readCommand_147 ?_
            refine c_wcVv (ws' := [(sc, .inr (8, [.ref tx, .int (nI LN), .int (nI ((wd f LN (ltS 1) x).1)), .int (bI (wd f LN (ltS 1) x).2), .int (nI n), .ref kd, .ref fs, .ref sd, .ref td])), (tx, .inl (cy 1, 60, .inl f)), (kd, .inl (cy 2, 13, .inl gk)), (fs, .inl (cy 2, 13, .inl g1)), (sd, .inl (cy 2, 13, .inl g2)), (td, .inl (cy 2, 13, .inl g3))]) S9 (c_X4_readWord l G cy kS vS sc tx kd fs sd td LN n x f 1 hL hx hcz (by first | assumption | decide)) (cwV 1 hts gX4_readCommand_X4_readWord rfl rfl rfl (by decide +kernel) ⟨Nat.le_of_ble_eq_true rfl, Nat.le_of_ble_eq_true rfl⟩) PS.blind (va_recv hK.1 hP (ci := 8) (q0 := 0) rfl rfl) (PS.at hSK hS (wA_sub hD [0, 1] rfl) hK (m_Ppart hP [0, 1] rfl)) hP hD hS [0, 1] rfl rfl m_f2 rfl rfl hl.1 rfl (Nat.le_of_ble_eq_true rfl) ⟨Nat.zero_le _, Nat.zero_le _⟩ dX4_readCommand_149 (fun H locs hP hD hS => ?_)
            have hP : va_P G vwCl [(sc, .inr (8, [.ref tx, .int (nI LN), .int (nI ((wd f LN wJoin x).1)), .int (bI (wd f LN wJoin x).2), .int (nI n), .ref kd, .ref fs, .ref sd, .ref td])), (tx, .inl (cy 1, 60, .inl f)), (kd, .inl (cy 2, 13, .inl gk)), (fs, .inl (cy 2, 13, .inl g1)), (sd, .inl (cy 2, 13, .inl g2)), (td, .inl (cy 2, 13, .inl g3))] H := hP
            have hD : va_D (wA [(sc, .inr (8, [.ref tx, .int (nI LN), .int (nI x.1), .int (bI x.2), .int (nI n), .ref kd, .ref fs, .ref sd, .ref td])), (tx, .inl (cy 1, 60, .inl f)), (kd, .inl (cy 2, 13, .inl gk)), (fs, .inl (cy 2, 13, .inl g1)), (sd, .inl (cy 2, 13, .inl g2)), (td, .inl (cy 2, 13, .inl g3))]) [(sc, .inr (8, [.ref tx, .int (nI LN), .int (nI ((wd f LN wJoin x).1)), .int (bI (wd f LN wJoin x).2), .int (nI n), .ref kd, .ref fs, .ref sd, .ref td])), (tx, .inl (cy 1, 60, .inl f)), (kd, .inl (cy 2, 13, .inl gk)), (fs, .inl (cy 2, 13, .inl g1)), (sd, .inl (cy 2, 13, .inl g2)), (td, .inl (cy 2, 13, .inl g3))] := hD
            refine lv_aload_n hxq hb dX4_readCommand_152 rfl (lv_at hl 0 rfl) ?_
            refine lv_iconst (v := 5) hxq hb dX4_readCommand_153 (by decide) ?_
            refine lv_aload_n hxq hb dX4_readCommand_154 rfl (lv_at hl 0 rfl) ?_
            refine c_wcVi (ws' := [(sc, .inr (8, [.ref tx, .int (nI LN), .int (nI ((dgX f LN (wd f LN wJoin x)).1)), .int (bI (dgX f LN (wd f LN wJoin x)).2), .int (nI n), .ref kd, .ref fs, .ref sd, .ref td])), (tx, .inl (cy 1, 60, .inl f)), (kd, .inl (cy 2, 13, .inl gk)), (fs, .inl (cy 2, 13, .inl g1)), (sd, .inl (cy 2, 13, .inl g2)), (td, .inl (cy 2, 13, .inl g3))]) S9 (c_X4_readDigit l G cy sc tx kd fs sd td LN n (wd f LN wJoin x) f hL (wd_le _ (by decide) hx) hcz) (cwV 0 hts gX4_readCommand_X4_readDigit rfl rfl rfl (by decide +kernel) ⟨Nat.le_of_ble_eq_true rfl, Nat.le_of_ble_eq_true rfl⟩) PB.blind (va_recv hK.1 hP (ci := 8) (q0 := 0) rfl rfl) (PB.at hK (m_Ppart hP [0, 1] rfl)) hP hD hS [0, 1] rfl rfl m_f2 rfl rfl hl.1 rfl (Nat.le_of_ble_eq_true rfl) ⟨Nat.zero_le _, Nat.zero_le _⟩ dX4_readCommand_155 (fun H locs hP hD hS => ?_)
            refine lv_iconst (v := 0) hxq hb dX4_readCommand_158 (by decide) ?_
            refine lv_iconst (v := 0) hxq hb dX4_readCommand_159 (by decide) ?_
            refine c_wcVv (ws' := [(sc, .inr (8, [.ref tx, .int (nI LN), .int (nI (dgX f LN (wd f LN wJoin x)).1), .int (bI (dgX f LN (wd f LN wJoin x)).2), .int (nI (adN (dgX f LN (wd f LN wJoin x)) n)), .ref kd, .ref fs, .ref sd, .ref td])), (tx, .inl (cy 1, 60, .inl f)), (kd, .inl (cy 2, 13, .inl (adF (dgX f LN (wd f LN wJoin x)) n gk 5))), (fs, .inl (cy 2, 13, .inl (adF (dgX f LN (wd f LN wJoin x)) n g1 (dgV f LN (wd f LN wJoin x))))), (sd, .inl (cy 2, 13, .inl (adF (dgX f LN (wd f LN wJoin x)) n g2 0))), (td, .inl (cy 2, 13, .inl (adF (dgX f LN (wd f LN wJoin x)) n g3 0)))]) S9 (c_X4_addCommand l G cy sc tx kd fs sd td LN n (dgX f LN (wd f LN wJoin x)) gk g1 g2 g3 5 (dgV f LN (wd f LN wJoin x)) 0 0 (by omega)) (cwV 4 hts gX4_readCommand_X4_addCommand rfl rfl rfl (by decide +kernel) ⟨Nat.le_of_ble_eq_true rfl, Nat.le_of_ble_eq_true rfl⟩) PB.blind (va_recv hK.1 hP (ci := 8) (q0 := 0) rfl rfl) (PB.at hK (m_Ppart hP [0, 2, 3, 4, 5] rfl)) hP hD hS [0, 2, 3, 4, 5] rfl rfl m_f5 rfl rfl hl.1 rfl (Nat.le_of_ble_eq_true rfl) ⟨Nat.zero_le _, Nat.zero_le _⟩ dX4_readCommand_160 (fun H locs hP hD hS => ?_)
            refine lv_goto (tgt := 192) hxq hb dX4_readCommand_163 (by decide) ?_
            have e9 : cmd f LN x = ((dgX f LN (wd f LN wJoin x)), 5, (dgV f LN (wd f LN wJoin x)), 0, 0) := ((if_neg s_0).trans ((if_neg s_1).trans ((if_neg s_2).trans ((if_neg s_3).trans (if_pos s_4)))))
            exact wc_vret hxq hb hr hlocks (by rw [e9]; (try dsimp only); exact hP) hS dX4_readCommand_192
          · by_cases s_5 : pk f LN x = 108
            · refine lv_t0 s_5 ?_
              refine lv_tableIn (off := 162) (tgt := 166) hxq hb dX4_readCommand_4 (by decide) (by decide) (by decide) (by decide) ?_
              refine lv_aload_n hxq hb dX4_readCommand_166 rfl (lv_at hl 0 rfl) ?_
              refine va_ldcS hxq hb hown (hSK.2.1 2 (by decide)) dX4_readCommand_167 ?_
              refine c_wcVv (ws' := [(sc, .inr (8, [.ref tx, .int (nI LN), .int (nI ((wd f LN (ltS 2) x).1)), .int (bI (wd f LN (ltS 2) x).2), .int (nI n), .ref kd, .ref fs, .ref sd, .ref td])), (tx, .inl (cy 1, 60, .inl f)), (kd, .inl (cy 2, 13, .inl gk)), (fs, .inl (cy 2, 13, .inl g1)), (sd, .inl (cy 2, 13, .inl g2)), (td, .inl (cy 2, 13, .inl g3))]) S9 (c_X4_readWord l G cy kS vS sc tx kd fs sd td LN n x f 2 hL hx hcz (by first | assumption | decide)) (cwV 1 hts gX4_readCommand_X4_readWord rfl rfl rfl (by decide +kernel) ⟨Nat.le_of_ble_eq_true rfl, Nat.le_of_ble_eq_true rfl⟩) PS.blind (va_recv hK.1 hP (ci := 8) (q0 := 0) rfl rfl) (PS.at hSK hS (wA_sub hD [0, 1] rfl) hK (m_Ppart hP [0, 1] rfl)) hP hD hS [0, 1] rfl rfl m_f2 rfl rfl hl.1 rfl (Nat.le_of_ble_eq_true rfl) ⟨Nat.zero_le _, Nat.zero_le _⟩ dX4_readCommand_169 (fun H locs hP hD hS => ?_)
              have hP : va_P G vwCl [(sc, .inr (8, [.ref tx, .int (nI LN), .int (nI ((wd f LN wLeave x).1)), .int (bI (wd f LN wLeave x).2), .int (nI n), .ref kd, .ref fs, .ref sd, .ref td])), (tx, .inl (cy 1, 60, .inl f)), (kd, .inl (cy 2, 13, .inl gk)), (fs, .inl (cy 2, 13, .inl g1)), (sd, .inl (cy 2, 13, .inl g2)), (td, .inl (cy 2, 13, .inl g3))] H := hP
              have hD : va_D (wA [(sc, .inr (8, [.ref tx, .int (nI LN), .int (nI x.1), .int (bI x.2), .int (nI n), .ref kd, .ref fs, .ref sd, .ref td])), (tx, .inl (cy 1, 60, .inl f)), (kd, .inl (cy 2, 13, .inl gk)), (fs, .inl (cy 2, 13, .inl g1)), (sd, .inl (cy 2, 13, .inl g2)), (td, .inl (cy 2, 13, .inl g3))]) [(sc, .inr (8, [.ref tx, .int (nI LN), .int (nI ((wd f LN wLeave x).1)), .int (bI (wd f LN wLeave x).2), .int (nI n), .ref kd, .ref fs, .ref sd, .ref td])), (tx, .inl (cy 1, 60, .inl f)), (kd, .inl (cy 2, 13, .inl gk)), (fs, .inl (cy 2, 13, .inl g1)), (sd, .inl (cy 2, 13, .inl g2)), (td, .inl (cy 2, 13, .inl g3))] := hD
              refine lv_aload_n hxq hb dX4_readCommand_172 rfl (lv_at hl 0 rfl) ?_
              refine lv_bipush (v := 6) hxq hb dX4_readCommand_173 (by decide) ?_
              refine lv_aload_n hxq hb dX4_readCommand_175 rfl (lv_at hl 0 rfl) ?_
              refine c_wcVi (ws' := [(sc, .inr (8, [.ref tx, .int (nI LN), .int (nI ((dgX f LN (wd f LN wLeave x)).1)), .int (bI (dgX f LN (wd f LN wLeave x)).2), .int (nI n), .ref kd, .ref fs, .ref sd, .ref td])), (tx, .inl (cy 1, 60, .inl f)), (kd, .inl (cy 2, 13, .inl gk)), (fs, .inl (cy 2, 13, .inl g1)), (sd, .inl (cy 2, 13, .inl g2)), (td, .inl (cy 2, 13, .inl g3))]) S9 (c_X4_readDigit l G cy sc tx kd fs sd td LN n (wd f LN wLeave x) f hL (wd_le _ (by decide) hx) hcz) (cwV 0 hts gX4_readCommand_X4_readDigit rfl rfl rfl (by decide +kernel) ⟨Nat.le_of_ble_eq_true rfl, Nat.le_of_ble_eq_true rfl⟩) PB.blind (va_recv hK.1 hP (ci := 8) (q0 := 0) rfl rfl) (PB.at hK (m_Ppart hP [0, 1] rfl)) hP hD hS [0, 1] rfl rfl m_f2 rfl rfl hl.1 rfl (Nat.le_of_ble_eq_true rfl) ⟨Nat.zero_le _, Nat.zero_le _⟩ dX4_readCommand_176 (fun H locs hP hD hS => ?_)
              refine lv_iconst (v := 0) hxq hb dX4_readCommand_179 (by decide) ?_
              refine lv_iconst (v := 0) hxq hb dX4_readCommand_180 (by decide) ?_
              refine c_wcVv (ws' := [(sc, .inr (8, [.ref tx, .int (nI LN), .int (nI (dgX f LN (wd f LN wLeave x)).1), .int (bI (dgX f LN (wd f LN wLeave x)).2), .int (nI (adN (dgX f LN (wd f LN wLeave x)) n)), .ref kd, .ref fs, .ref sd, .ref td])), (tx, .inl (cy 1, 60, .inl f)), (kd, .inl (cy 2, 13, .inl (adF (dgX f LN (wd f LN wLeave x)) n gk 6))), (fs, .inl (cy 2, 13, .inl (adF (dgX f LN (wd f LN wLeave x)) n g1 (dgV f LN (wd f LN wLeave x))))), (sd, .inl (cy 2, 13, .inl (adF (dgX f LN (wd f LN wLeave x)) n g2 0))), (td, .inl (cy 2, 13, .inl (adF (dgX f LN (wd f LN wLeave x)) n g3 0)))]) S9 (c_X4_addCommand l G cy sc tx kd fs sd td LN n (dgX f LN (wd f LN wLeave x)) gk g1 g2 g3 6 (dgV f LN (wd f LN wLeave x)) 0 0 (by omega)) (cwV 4 hts gX4_readCommand_X4_addCommand rfl rfl rfl (by decide +kernel) ⟨Nat.le_of_ble_eq_true rfl, Nat.le_of_ble_eq_true rfl⟩) PB.blind (va_recv hK.1 hP (ci := 8) (q0 := 0) rfl rfl) (PB.at hK (m_Ppart hP [0, 2, 3, 4, 5] rfl)) hP hD hS [0, 2, 3, 4, 5] rfl rfl m_f5 rfl rfl hl.1 rfl (Nat.le_of_ble_eq_true rfl) ⟨Nat.zero_le _, Nat.zero_le _⟩ dX4_readCommand_181 (fun H locs hP hD hS => ?_)
              refine lv_goto (tgt := 192) hxq hb dX4_readCommand_184 (by decide) ?_
              have e9 : cmd f LN x = ((dgX f LN (wd f LN wLeave x)), 6, (dgV f LN (wd f LN wLeave x)), 0, 0) := ((if_neg s_0).trans ((if_neg s_1).trans ((if_neg s_2).trans ((if_neg s_3).trans ((if_neg s_4).trans (if_pos s_5))))))
              exact wc_vret hxq hb hr hlocks (by rw [e9]; (try dsimp only); exact hP) hS dX4_readCommand_192
            · rcases sw4 s_0 s_1 s_2 s_3 s_4 s_5 with hT | ⟨hT1, hT2, hT3⟩
              · refine lv_tableOut (tgt := 187) hxq hb dX4_readCommand_4 hT (by decide) ?_
                refine lv_aload_n hxq hb dX4_readCommand_187 rfl (lv_at hl 0 rfl) ?_
                refine lv_iconst (v := 1) hxq hb dX4_readCommand_188 (by decide) ?_
                refine va_put (D := G) (ci := 8) (v := .int 1) (ty := .boolean) (C := RX4) (T := TX4) (N := 9) hxq hb hts hi8 tyX4 tyX4_ok nmX4 hown hK.1 hP hD hS 0 rfl rfl 3 (by decide) hf22 (fun _ h9 => h9) rfl (by decide +kernel) rfl rfl (Nat.le_of_ble_eq_true rfl) dX4_readCommand_189 (fun H locs hP hD hS => ?_)
                have hP : va_P G vwCl [(sc, .inr (8, [.ref tx, .int (nI LN), .int (nI x.1), .int 1, .int (nI n), .ref kd, .ref fs, .ref sd, .ref td])), (tx, .inl (cy 1, 60, .inl f)), (kd, .inl (cy 2, 13, .inl gk)), (fs, .inl (cy 2, 13, .inl g1)), (sd, .inl (cy 2, 13, .inl g2)), (td, .inl (cy 2, 13, .inl g3))] H := hP
                have hD : va_D (wA [(sc, .inr (8, [.ref tx, .int (nI LN), .int (nI x.1), .int (bI x.2), .int (nI n), .ref kd, .ref fs, .ref sd, .ref td])), (tx, .inl (cy 1, 60, .inl f)), (kd, .inl (cy 2, 13, .inl gk)), (fs, .inl (cy 2, 13, .inl g1)), (sd, .inl (cy 2, 13, .inl g2)), (td, .inl (cy 2, 13, .inl g3))]) [(sc, .inr (8, [.ref tx, .int (nI LN), .int (nI x.1), .int 1, .int (nI n), .ref kd, .ref fs, .ref sd, .ref td])), (tx, .inl (cy 1, 60, .inl f)), (kd, .inl (cy 2, 13, .inl gk)), (fs, .inl (cy 2, 13, .inl g1)), (sd, .inl (cy 2, 13, .inl g2)), (td, .inl (cy 2, 13, .inl g3))] := hD
                have e9 : cmd f LN x = ((x.1, true), 0, 0, 0, 0) := ((if_neg s_0).trans ((if_neg s_1).trans ((if_neg s_2).trans ((if_neg s_3).trans ((if_neg s_4).trans (if_neg s_5))))))
                exact wc_vret hxq hb hr hlocks (by rw [e9]; (try dsimp only); exact hP) hS dX4_readCommand_192
              · refine lv_tableIn (off := 183) (tgt := 187) hxq hb dX4_readCommand_4 hT1 hT2 hT3 (by decide) ?_
                refine lv_aload_n hxq hb dX4_readCommand_187 rfl (lv_at hl 0 rfl) ?_
                refine lv_iconst (v := 1) hxq hb dX4_readCommand_188 (by decide) ?_
                refine va_put (D := G) (ci := 8) (v := .int 1) (ty := .boolean) (C := RX4) (T := TX4) (N := 9) hxq hb hts hi8 tyX4 tyX4_ok nmX4 hown hK.1 hP hD hS 0 rfl rfl 3 (by decide) hf22 (fun _ h9 => h9) rfl (by decide +kernel) rfl rfl (Nat.le_of_ble_eq_true rfl) dX4_readCommand_189 (fun H locs hP hD hS => ?_)
                have hP : va_P G vwCl [(sc, .inr (8, [.ref tx, .int (nI LN), .int (nI x.1), .int 1, .int (nI n), .ref kd, .ref fs, .ref sd, .ref td])), (tx, .inl (cy 1, 60, .inl f)), (kd, .inl (cy 2, 13, .inl gk)), (fs, .inl (cy 2, 13, .inl g1)), (sd, .inl (cy 2, 13, .inl g2)), (td, .inl (cy 2, 13, .inl g3))] H := hP
                have hD : va_D (wA [(sc, .inr (8, [.ref tx, .int (nI LN), .int (nI x.1), .int (bI x.2), .int (nI n), .ref kd, .ref fs, .ref sd, .ref td])), (tx, .inl (cy 1, 60, .inl f)), (kd, .inl (cy 2, 13, .inl gk)), (fs, .inl (cy 2, 13, .inl g1)), (sd, .inl (cy 2, 13, .inl g2)), (td, .inl (cy 2, 13, .inl g3))]) [(sc, .inr (8, [.ref tx, .int (nI LN), .int (nI x.1), .int 1, .int (nI n), .ref kd, .ref fs, .ref sd, .ref td])), (tx, .inl (cy 1, 60, .inl f)), (kd, .inl (cy 2, 13, .inl gk)), (fs, .inl (cy 2, 13, .inl g1)), (sd, .inl (cy 2, 13, .inl g2)), (td, .inl (cy 2, 13, .inl g3))] := hD
                have e9 : cmd f LN x = ((x.1, true), 0, 0, 0, 0) := ((if_neg s_0).trans ((if_neg s_1).trans ((if_neg s_2).trans ((if_neg s_3).trans ((if_neg s_4).trans (if_neg s_5))))))
                exact wc_vret hxq hb hr hlocks (by rw [e9]; (try dsimp only); exact hP) hS dX4_readCommand_192

set_option maxRecDepth 100000 in
set_option maxHeartbeats 1000000 in
theorem c_X4_read (l : Launch) (G : va_G) (cy : Nat → ClassId) (kS vS : Nat → Nat) (sc tx kd fs sd td LN n : Nat) (x0 : Lx) (f gk g1 g2 g3 : Nat → Int32) (R9 : Lx × Cs) (hL : LN ≤ 60) (hcz : czN 60 f) (hR0 : lpC f LN 13 (0, false) (0, gk, g1, g2, g3) = R9) : WC l yX4_read wsX4_read { frames := 7, cells := 0, slots := 0, locals := 149 } G (PS G cy kS vS [(sc, .inr (8, [.ref tx, .int (nI LN), .int (nI x0.1), .int (bI x0.2), .int (nI n), .ref kd, .ref fs, .ref sd, .ref td])), (tx, .inl (cy 1, 60, .inl f)), (kd, .inl (cy 2, 13, .inl gk)), (fs, .inl (cy 2, 13, .inl g1)), (sd, .inl (cy 2, 13, .inl g2)), (td, .inl (cy 2, 13, .inl g3))]) [.ref sc] [(sc, .inr (8, [.ref tx, .int (nI LN), .int (nI x0.1), .int (bI x0.2), .int (nI n), .ref kd, .ref fs, .ref sd, .ref td])), (tx, .inl (cy 1, 60, .inl f)), (kd, .inl (cy 2, 13, .inl gk)), (fs, .inl (cy 2, 13, .inl g1)), (sd, .inl (cy 2, 13, .inl g2)), (td, .inl (cy 2, 13, .inl g3))] [(sc, .inr (8, [.ref tx, .int (nI LN), .int (nI R9.1.1), .int (bI R9.1.2), .int (nI R9.2.1), .ref kd, .ref fs, .ref sd, .ref td])), (tx, .inl (cy 1, 60, .inl f)), (kd, .inl (cy 2, 13, .inl R9.2.2.1)), (fs, .inl (cy 2, 13, .inl R9.2.2.2.1)), (sd, .inl (cy 2, 13, .inl R9.2.2.2.2.1)), (td, .inl (cy 2, 13, .inl R9.2.2.2.2.2))] (none) := by
  refine WC.ofW (cc := cX4_read) (maxL := 3) (ret := none) (by decide) rfl (Nat.le_of_ble_eq_true rfl) ?_
  intro p e s m below meth cq S9 hr hlocks hPB hD hS ls hl
  obtain ⟨hxq, hb, hml, hown, hts⟩ := id S9
  obtain ⟨⟨hP, hK⟩, hSK⟩ := hPB
  have hl : lv_has ls 3 [(0, .ref sc)] := hl
  have hi8 : ∀ w ∈ wsX40, w ∈ wsX4_read := by decide +kernel
  have hf15 := hts (.fieldLink RX4 15 "BathLeague$Script" "length" "I") (by decide +kernel)
  have hf19 := hts (.fieldLink RX4 19 "BathLeague$Script" "position" "I") (by decide +kernel)
  have hf22 := hts (.fieldLink RX4 22 "BathLeague$Script" "malformed" "Z") (by decide +kernel)
  have hf26 := hts (.fieldLink RX4 26 "BathLeague$Script" "count" "I") (by decide +kernel)
  refine lv_aload_n hxq hb dX4_read_0 rfl (lv_at hl 0 rfl) ?_
  refine lv_iconst (v := 0) hxq hb dX4_read_1 (by decide) ?_
  refine va_put (D := G) (ci := 8) (v := .int 0) (ty := .int) (C := RX4) (T := TX4) (N := 9) hxq hb hts hi8 tyX4 tyX4_ok nmX4 hown hK.1 hP hD hS 0 rfl rfl 2 (by decide) hf19 (fun _ h9 => h9) rfl (by decide +kernel) rfl rfl (Nat.le_of_ble_eq_true rfl) dX4_read_2 (fun H locs hP hD hS => ?_)
  have hP : va_P G vwCl [(sc, .inr (8, [.ref tx, .int (nI LN), .int 0, .int (bI x0.2), .int (nI n), .ref kd, .ref fs, .ref sd, .ref td])), (tx, .inl (cy 1, 60, .inl f)), (kd, .inl (cy 2, 13, .inl gk)), (fs, .inl (cy 2, 13, .inl g1)), (sd, .inl (cy 2, 13, .inl g2)), (td, .inl (cy 2, 13, .inl g3))] H := hP
  have hD : va_D (wA [(sc, .inr (8, [.ref tx, .int (nI LN), .int (nI x0.1), .int (bI x0.2), .int (nI n), .ref kd, .ref fs, .ref sd, .ref td])), (tx, .inl (cy 1, 60, .inl f)), (kd, .inl (cy 2, 13, .inl gk)), (fs, .inl (cy 2, 13, .inl g1)), (sd, .inl (cy 2, 13, .inl g2)), (td, .inl (cy 2, 13, .inl g3))]) [(sc, .inr (8, [.ref tx, .int (nI LN), .int 0, .int (bI x0.2), .int (nI n), .ref kd, .ref fs, .ref sd, .ref td])), (tx, .inl (cy 1, 60, .inl f)), (kd, .inl (cy 2, 13, .inl gk)), (fs, .inl (cy 2, 13, .inl g1)), (sd, .inl (cy 2, 13, .inl g2)), (td, .inl (cy 2, 13, .inl g3))] := hD
  refine lv_aload_n hxq hb dX4_read_5 rfl (lv_at hl 0 rfl) ?_
  refine lv_iconst (v := 0) hxq hb dX4_read_6 (by decide) ?_
  refine va_put (D := G) (ci := 8) (v := .int 0) (ty := .boolean) (C := RX4) (T := TX4) (N := 9) hxq hb hts hi8 tyX4 tyX4_ok nmX4 hown hK.1 hP hD hS 0 rfl rfl 3 (by decide) hf22 (fun _ h9 => h9) rfl (by decide +kernel) rfl rfl (Nat.le_of_ble_eq_true rfl) dX4_read_7 (fun H locs hP hD hS => ?_)
  have hP : va_P G vwCl [(sc, .inr (8, [.ref tx, .int (nI LN), .int 0, .int 0, .int (nI n), .ref kd, .ref fs, .ref sd, .ref td])), (tx, .inl (cy 1, 60, .inl f)), (kd, .inl (cy 2, 13, .inl gk)), (fs, .inl (cy 2, 13, .inl g1)), (sd, .inl (cy 2, 13, .inl g2)), (td, .inl (cy 2, 13, .inl g3))] H := hP
  have hD : va_D (wA [(sc, .inr (8, [.ref tx, .int (nI LN), .int (nI x0.1), .int (bI x0.2), .int (nI n), .ref kd, .ref fs, .ref sd, .ref td])), (tx, .inl (cy 1, 60, .inl f)), (kd, .inl (cy 2, 13, .inl gk)), (fs, .inl (cy 2, 13, .inl g1)), (sd, .inl (cy 2, 13, .inl g2)), (td, .inl (cy 2, 13, .inl g3))]) [(sc, .inr (8, [.ref tx, .int (nI LN), .int 0, .int 0, .int (nI n), .ref kd, .ref fs, .ref sd, .ref td])), (tx, .inl (cy 1, 60, .inl f)), (kd, .inl (cy 2, 13, .inl gk)), (fs, .inl (cy 2, 13, .inl g1)), (sd, .inl (cy 2, 13, .inl g2)), (td, .inl (cy 2, 13, .inl g3))] := hD
  refine lv_aload_n hxq hb dX4_read_10 rfl (lv_at hl 0 rfl) ?_
  refine lv_iconst (v := 0) hxq hb dX4_read_11 (by decide) ?_
  refine va_put (D := G) (ci := 8) (v := .int 0) (ty := .int) (C := RX4) (T := TX4) (N := 9) hxq hb hts hi8 tyX4 tyX4_ok nmX4 hown hK.1 hP hD hS 0 rfl rfl 4 (by decide) hf26 (fun _ h9 => h9) rfl (by decide +kernel) rfl rfl (Nat.le_of_ble_eq_true rfl) dX4_read_12 (fun H locs hP hD hS => ?_)
  have hP : va_P G vwCl [(sc, .inr (8, [.ref tx, .int (nI LN), .int 0, .int 0, .int 0, .ref kd, .ref fs, .ref sd, .ref td])), (tx, .inl (cy 1, 60, .inl f)), (kd, .inl (cy 2, 13, .inl gk)), (fs, .inl (cy 2, 13, .inl g1)), (sd, .inl (cy 2, 13, .inl g2)), (td, .inl (cy 2, 13, .inl g3))] H := hP
  have hD : va_D (wA [(sc, .inr (8, [.ref tx, .int (nI LN), .int (nI x0.1), .int (bI x0.2), .int (nI n), .ref kd, .ref fs, .ref sd, .ref td])), (tx, .inl (cy 1, 60, .inl f)), (kd, .inl (cy 2, 13, .inl gk)), (fs, .inl (cy 2, 13, .inl g1)), (sd, .inl (cy 2, 13, .inl g2)), (td, .inl (cy 2, 13, .inl g3))]) [(sc, .inr (8, [.ref tx, .int (nI LN), .int 0, .int 0, .int 0, .ref kd, .ref fs, .ref sd, .ref td])), (tx, .inl (cy 1, 60, .inl f)), (kd, .inl (cy 2, 13, .inl gk)), (fs, .inl (cy 2, 13, .inl g1)), (sd, .inl (cy 2, 13, .inl g2)), (td, .inl (cy 2, 13, .inl g3))] := hD
  refine lv_iconst (v := 1) hxq hb dX4_read_15 (by decide) ?_
  refine lv_istore_n (lv' := [(1, .int 1), (0, .ref sc)]) hxq hb dX4_read_16 rfl hl (by decide) rfl (fun ls hl => ?_)
  refine lv_iconst (v := 0) hxq hb dX4_read_17 (by decide) ?_
  refine lv_istore_n (lv' := [(2, .int 0), (1, .int 1), (0, .ref sc)]) hxq hb dX4_read_18 rfl hl (by decide) rfl (fun ls hl => ?_)
  have hP : va_P G vwCl [(sc, .inr (8, [.ref tx, .int (nI LN), .int (nI (((0, false) : Lx).1)), .int (bI ((0, false) : Lx).2), .int (nI (((0, gk, g1, g2, g3) : Cs).1)), .ref kd, .ref fs, .ref sd, .ref td])), (tx, .inl (cy 1, 60, .inl f)), (kd, .inl (cy 2, 13, .inl (((0, gk, g1, g2, g3) : Cs).2.1))), (fs, .inl (cy 2, 13, .inl (((0, gk, g1, g2, g3) : Cs).2.2.1))), (sd, .inl (cy 2, 13, .inl (((0, gk, g1, g2, g3) : Cs).2.2.2.1))), (td, .inl (cy 2, 13, .inl (((0, gk, g1, g2, g3) : Cs).2.2.2.2)))] H := hP
  have hD : va_D (wA [(sc, .inr (8, [.ref tx, .int (nI LN), .int (nI x0.1), .int (bI x0.2), .int (nI n), .ref kd, .ref fs, .ref sd, .ref td])), (tx, .inl (cy 1, 60, .inl f)), (kd, .inl (cy 2, 13, .inl gk)), (fs, .inl (cy 2, 13, .inl g1)), (sd, .inl (cy 2, 13, .inl g2)), (td, .inl (cy 2, 13, .inl g3))]) [(sc, .inr (8, [.ref tx, .int (nI LN), .int (nI (((0, false) : Lx).1)), .int (bI ((0, false) : Lx).2), .int (nI (((0, gk, g1, g2, g3) : Cs).1)), .ref kd, .ref fs, .ref sd, .ref td])), (tx, .inl (cy 1, 60, .inl f)), (kd, .inl (cy 2, 13, .inl (((0, gk, g1, g2, g3) : Cs).2.1))), (fs, .inl (cy 2, 13, .inl (((0, gk, g1, g2, g3) : Cs).2.2.1))), (sd, .inl (cy 2, 13, .inl (((0, gk, g1, g2, g3) : Cs).2.2.2.1))), (td, .inl (cy 2, 13, .inl (((0, gk, g1, g2, g3) : Cs).2.2.2.2)))] := hD
  have L_1 : ∀ (d k : Nat), k + d = 13 → ∀ (x : Lx), ∀ (cs : Cs), ∀ (bm : Int32), (x.1 ≤ LN) → (cs.1 ≤ 13) → ((bm = 1 ∧ lpC f LN d x cs = R9) ∨ (bm = 0 ∧ (x, cs) = R9)) → ∀ (H : Heap) (locs : List Loc), va_P G vwCl [(sc, .inr (8, [.ref tx, .int (nI LN), .int (nI x.1), .int (bI x.2), .int (nI cs.1), .ref kd, .ref fs, .ref sd, .ref td])), (tx, .inl (cy 1, 60, .inl f)), (kd, .inl (cy 2, 13, .inl cs.2.1)), (fs, .inl (cy 2, 13, .inl cs.2.2.1)), (sd, .inl (cy 2, 13, .inl cs.2.2.2.1)), (td, .inl (cy 2, 13, .inl cs.2.2.2.2))] H → va_D (wA [(sc, .inr (8, [.ref tx, .int (nI LN), .int (nI x0.1), .int (bI x0.2), .int (nI n), .ref kd, .ref fs, .ref sd, .ref td])), (tx, .inl (cy 1, 60, .inl f)), (kd, .inl (cy 2, 13, .inl gk)), (fs, .inl (cy 2, 13, .inl g1)), (sd, .inl (cy 2, 13, .inl g2)), (td, .inl (cy 2, 13, .inl g3))]) [(sc, .inr (8, [.ref tx, .int (nI LN), .int (nI x.1), .int (bI x.2), .int (nI cs.1), .ref kd, .ref fs, .ref sd, .ref td])), (tx, .inl (cy 1, 60, .inl f)), (kd, .inl (cy 2, 13, .inl cs.2.1)), (fs, .inl (cy 2, 13, .inl cs.2.2.1)), (sd, .inl (cy 2, 13, .inl cs.2.2.2.1)), (td, .inl (cy 2, 13, .inl cs.2.2.2.2))] → va_S (wA [(sc, .inr (8, [.ref tx, .int (nI LN), .int (nI x0.1), .int (bI x0.2), .int (nI n), .ref kd, .ref fs, .ref sd, .ref td])), (tx, .inl (cy 1, 60, .inl f)), (kd, .inl (cy 2, 13, .inl gk)), (fs, .inl (cy 2, 13, .inl g1)), (sd, .inl (cy 2, 13, .inl g2)), (td, .inl (cy 2, 13, .inl g3))]) s.heap H locs → ∀ ls : Array Slot, lv_has ls 3 [(0, .ref sc), (1, .int bm), (2, .int (nI k))] → W p l e ({ frames := 7, cells := 0, slots := 0, locals := 149 } : Room) s m ([.ref sc] : List Value).toArray below meth cq H locs 0 0 (wcZ below ([.ref sc] : List Value).toArray s G [(sc, .inr (8, [.ref tx, .int (nI LN), .int (nI x0.1), .int (bI x0.2), .int (nI n), .ref kd, .ref fs, .ref sd, .ref td])), (tx, .inl (cy 1, 60, .inl f)), (kd, .inl (cy 2, 13, .inl gk)), (fs, .inl (cy 2, 13, .inl g1)), (sd, .inl (cy 2, 13, .inl g2)), (td, .inl (cy 2, 13, .inl g3))] [(sc, .inr (8, [.ref tx, .int (nI LN), .int (nI R9.1.1), .int (bI R9.1.2), .int (nI R9.2.1), .ref kd, .ref fs, .ref sd, .ref td])), (tx, .inl (cy 1, 60, .inl f)), (kd, .inl (cy 2, 13, .inl R9.2.2.1)), (fs, .inl (cy 2, 13, .inl R9.2.2.2.1)), (sd, .inl (cy 2, 13, .inl R9.2.2.2.2.1)), (td, .inl (cy 2, 13, .inl R9.2.2.2.2.2))] (none)) (F0 m 19 ls []) := by
    intro d
    induction d with
    | zero =>
      intro k hkk x cs bm hx hn7 hR H locs hP hD hS ls hl
      refine lv_iload_n hxq hb dX4_read_19 rfl (lv_at hl 2 rfl) ?_
      refine lv_bipush (v := 13) hxq hb dX4_read_20 (by decide) ?_
      refine lv_icmp_ge (tgt := 83) hxq hb dX4_read_22 (by decide) (fun c_2 => ?_) (fun c_2 => ?_)
      · have k_3 : 13 ≤ k := (m_leN (a := 13) (b := k) rfl rfl (by omega) (by omega)).mp c_2
        have k_3' : ¬ (k < 13) := by omega
        have hR7 : (x, cs) = R9 := by rcases hR with h7 | h7; exact h7.2; exact h7.2
        exact wc_vret hxq hb hr hlocks (by rw [← hR7]; exact hP) hS dX4_read_83
      · have k_4 : ¬ (13 ≤ k) := fun z => c_2 ((m_leN (a := 13) (b := k) rfl rfl (by omega) (by omega)).mpr z)
        have k_4' : k < 13 := by omega
        exfalso; omega
    | succ d ih =>
      intro k hkk x cs bm hx hn7 hR H locs hP hD hS ls hl
      have hn : cs.1 ≤ 13 := hn7
      have hcx : (cmd f LN x).1.1 ≤ LN := cmd_le hx
      refine lv_iload_n hxq hb dX4_read_19 rfl (lv_at hl 2 rfl) ?_
      refine lv_bipush (v := 13) hxq hb dX4_read_20 (by decide) ?_
      refine lv_icmp_ge (tgt := 83) hxq hb dX4_read_22 (by decide) (fun c_5 => ?_) (fun c_5 => ?_)
      · have k_6 : 13 ≤ k := (m_leN (a := 13) (b := k) rfl rfl (by omega) (by omega)).mp c_5
        have k_6' : ¬ (k < 13) := by omega
        exfalso; omega
      · have k_7 : ¬ (13 ≤ k) := fun z => c_5 ((m_leN (a := 13) (b := k) rfl rfl (by omega) (by omega)).mpr z)
        have k_7' : k < 13 := by omega
        refine lv_iload_n hxq hb dX4_read_25 rfl (lv_at hl 1 rfl) ?_
        refine lv_if_eq (tgt := 83) hxq hb dX4_read_26 (by decide) (fun c_8 => ?_) (fun c_8 => ?_)
        · have hR7 : (x, cs) = R9 := by rcases hR with h7 | h7; exact absurd (h7.1.symm.trans c_8) (by decide); exact h7.2
          exact wc_vret hxq hb hr hlocks (by rw [← hR7]; exact hP) hS dX4_read_83
        · have hR7 := hR.resolve_right (fun h7 => c_8 h7.1)
          have hR7 := hR7.2
          refine lv_aload_n hxq hb dX4_read_29 rfl (lv_at hl 0 rfl) ?_
          refine c_wcVv (ws' := [(sc, .inr (8, [.ref tx, .int (nI LN), .int (nI ((cmd f LN x).1.1)), .int (bI (cmd f LN x).1.2), .int (nI (adN (cmd f LN x).1 cs.1)), .ref kd, .ref fs, .ref sd, .ref td])), (tx, .inl (cy 1, 60, .inl f)), (kd, .inl (cy 2, 13, .inl (adF (cmd f LN x).1 cs.1 cs.2.1 (cmd f LN x).2.1))), (fs, .inl (cy 2, 13, .inl (adF (cmd f LN x).1 cs.1 cs.2.2.1 (cmd f LN x).2.2.1))), (sd, .inl (cy 2, 13, .inl (adF (cmd f LN x).1 cs.1 cs.2.2.2.1 (cmd f LN x).2.2.2.1))), (td, .inl (cy 2, 13, .inl (adF (cmd f LN x).1 cs.1 cs.2.2.2.2 (cmd f LN x).2.2.2.2)))]) S9 (c_X4_readCommand l G cy kS vS sc tx kd fs sd td LN cs.1 x f cs.2.1 cs.2.2.1 cs.2.2.2.1 cs.2.2.2.2 hL hx hcz (by omega)) (cwV 0 hts gX4_read_X4_readCommand rfl rfl rfl (by decide +kernel) ⟨Nat.le_of_ble_eq_true rfl, Nat.le_of_ble_eq_true rfl⟩) PS.blind (va_recv hK.1 hP (ci := 8) (q0 := 0) rfl rfl) (PS.at hSK hS (wA_sub hD [0, 1, 2, 3, 4, 5] rfl) hK (m_Ppart hP [0, 1, 2, 3, 4, 5] rfl)) hP hD hS [0, 1, 2, 3, 4, 5] rfl rfl m_f6 rfl rfl hl.1 rfl (Nat.le_of_ble_eq_true rfl) ⟨Nat.zero_le _, Nat.zero_le _⟩ dX4_read_30 (fun H locs hP hD hS => ?_)
          refine lv_aload_n hxq hb dX4_read_33 rfl (lv_at hl 0 rfl) ?_
          refine va_get (D := G) (ci := 8) (v := .int (nI ((cmd f LN x).1.1))) (C := RX4) (T := TX4) (N := 9) hxq hb hts hi8 hown hK.1 hP 0 rfl rfl 2 (by decide) hf19 (fun _ h9 => h9) rfl dX4_read_34 ?_
          refine lv_aload_n hxq hb dX4_read_37 rfl (lv_at hl 0 rfl) ?_
          refine va_get (D := G) (ci := 8) (v := .int (nI LN)) (C := RX4) (T := TX4) (N := 9) hxq hb hts hi8 hown hK.1 hP 0 rfl rfl 1 (by decide) hf15 (fun _ h9 => h9) rfl dX4_read_38 ?_
          refine lv_icmp_ge (tgt := 48) hxq hb dX4_read_41 (by decide) (fun c_9 => ?_) (fun c_9 => ?_)
          · have k_10 : LN ≤ (cmd f LN x).1.1 := (m_leN (a := LN) (b := (cmd f LN x).1.1) rfl rfl (by omega) (by omega)).mp c_9
            have k_10' : ¬ ((cmd f LN x).1.1 < LN) := by omega
            refine lv_iconst (v := 0) hxq hb dX4_read_48 (by decide) ?_
            refine lv_istore_n (lv' := [(1, .int 0), (0, .ref sc), (2, .int (nI k))]) hxq hb dX4_read_49 rfl hl (by decide) rfl (fun ls hl => ?_)
            refine lv_iload_n hxq hb dX4_read_50 rfl (lv_at hl 0 rfl) ?_
            refine lv_if_eq (tgt := 60) hxq hb dX4_read_51 (by decide) (fun c_11 => ?_) (fun c_11 => ?_)
            · refine lv_iload_n hxq hb dX4_read_60 rfl (lv_at hl 0 rfl) ?_
              refine lv_if_eq (tgt := 75) hxq hb dX4_read_61 (by decide) (fun c_12 => ?_) (fun c_12 => ?_)
              · refine lv_iconst (v := 0) hxq hb dX4_read_75 (by decide) ?_
                refine lv_istore_n (lv' := [(1, .int 0), (0, .ref sc), (2, .int (nI k))]) hxq hb dX4_read_76 rfl hl (by decide) rfl (fun ls hl => ?_)
                refine lv_iinc (v := nI (k + 1)) (lv' := [(2, .int (nI (k + 1))), (1, .int 0), (0, .ref sc)]) hxq hb dX4_read_77 hl (k := 2) rfl (m_inc _) (by decide) rfl (fun ls hl => ?_)
                refine lv_goto (tgt := 19) hxq hb dX4_read_80 (by decide) ?_
                exact ih (k + 1) (by omega) ((cmd f LN x).1) (addC (cmd f LN x) cs) 0 (cmd_le hx) (adN_le hn7) (Or.inr ⟨rfl, lp_end k_10' hR7⟩) H locs hP (m_D6 hD) hS ls (lv_sub hl [2, 1, 0] rfl)
              · exact absurd c_12 (by decide)
            · exact absurd c_11 (by decide)
          · have k_13 : ¬ (LN ≤ (cmd f LN x).1.1) := fun z => c_9 ((m_leN (a := LN) (b := (cmd f LN x).1.1) rfl rfl (by omega) (by omega)).mpr z)
            have k_13' : (cmd f LN x).1.1 < LN := by omega
            refine lv_iconst (v := 1) hxq hb dX4_read_44 (by decide) ?_
            refine lv_goto (tgt := 49) hxq hb dX4_read_45 (by decide) ?_
            refine lv_istore_n (lv' := [(1, .int 1), (0, .ref sc), (2, .int (nI k))]) hxq hb dX4_read_49 rfl hl (by decide) rfl (fun ls hl => ?_)
            refine lv_iload_n hxq hb dX4_read_50 rfl (lv_at hl 0 rfl) ?_
            refine lv_if_eq (tgt := 60) hxq hb dX4_read_51 (by decide) (fun c_14 => ?_) (fun c_14 => ?_)
            · exact absurd c_14 (by decide)
            · refine lv_aload_n hxq hb dX4_read_54 rfl (lv_at hl 1 rfl) ?_
              refine lv_bipush (v := 59) hxq hb dX4_read_55 (by decide) ?_
              refine c_wcVv (ws' := [(sc, .inr (8, [.ref tx, .int (nI LN), .int (nI ((sg f LN 59 ((cmd f LN x).1)).1)), .int (bI (sg f LN 59 ((cmd f LN x).1)).2), .int (nI (adN (cmd f LN x).1 cs.1)), .ref kd, .ref fs, .ref sd, .ref td])), (tx, .inl (cy 1, 60, .inl f)), (kd, .inl (cy 2, 13, .inl (adF (cmd f LN x).1 cs.1 cs.2.1 (cmd f LN x).2.1))), (fs, .inl (cy 2, 13, .inl (adF (cmd f LN x).1 cs.1 cs.2.2.1 (cmd f LN x).2.2.1))), (sd, .inl (cy 2, 13, .inl (adF (cmd f LN x).1 cs.1 cs.2.2.2.1 (cmd f LN x).2.2.2.1))), (td, .inl (cy 2, 13, .inl (adF (cmd f LN x).1 cs.1 cs.2.2.2.2 (cmd f LN x).2.2.2.2)))]) S9 (c_X4_readSign l G cy sc tx kd fs sd td LN (adN (cmd f LN x).1 cs.1) ((cmd f LN x).1) f 59 hL (cmd_le hx) hcz (by decide)) (cwV 1 hts gX4_read_X4_readSign rfl rfl rfl (by decide +kernel) ⟨Nat.le_of_ble_eq_true rfl, Nat.le_of_ble_eq_true rfl⟩) PB.blind (va_recv hK.1 hP (ci := 8) (q0 := 0) rfl rfl) (PB.at hK (m_Ppart hP [0, 1] rfl)) hP hD hS [0, 1] rfl rfl m_f2 rfl rfl hl.1 rfl (Nat.le_of_ble_eq_true rfl) ⟨Nat.zero_le _, Nat.zero_le _⟩ dX4_read_57 (fun H locs hP hD hS => ?_)
              refine lv_iload_n hxq hb dX4_read_60 rfl (lv_at hl 0 rfl) ?_
              refine lv_if_eq (tgt := 75) hxq hb dX4_read_61 (by decide) (fun c_15 => ?_) (fun c_15 => ?_)
              · exact absurd c_15 (by decide)
              · refine lv_aload_n hxq hb dX4_read_64 rfl (lv_at hl 1 rfl) ?_
                refine va_get (D := G) (ci := 8) (v := .int (bI (sg f LN 59 ((cmd f LN x).1)).2)) (C := RX4) (T := TX4) (N := 9) hxq hb hts hi8 hown hK.1 hP 0 rfl rfl 3 (by decide) hf22 (fun _ h9 => h9) rfl dX4_read_65 ?_
                refine lv_if_ne (tgt := 75) hxq hb dX4_read_68 (by decide) (fun c_16 => ?_) (fun c_16 => ?_)
                · have z_17 : (sg f LN 59 ((cmd f LN x).1)).2 = true := bI_t c_16
                  refine lv_iconst (v := 0) hxq hb dX4_read_75 (by decide) ?_
                  refine lv_istore_n (lv' := [(1, .int 0), (0, .ref sc), (2, .int (nI k))]) hxq hb dX4_read_76 rfl hl (by decide) rfl (fun ls hl => ?_)
                  refine lv_iinc (v := nI (k + 1)) (lv' := [(2, .int (nI (k + 1))), (1, .int 0), (0, .ref sc)]) hxq hb dX4_read_77 hl (k := 2) rfl (m_inc _) (by decide) rfl (fun ls hl => ?_)
                  refine lv_goto (tgt := 19) hxq hb dX4_read_80 (by decide) ?_
                  exact ih (k + 1) (by omega) (sg f LN 59 ((cmd f LN x).1)) (addC (cmd f LN x) cs) 0 (sg_le (by decide) (cmd_le hx)) (adN_le hn7) (Or.inr ⟨rfl, lp_bad k_13' z_17 hR7⟩) H locs hP (m_D6 hD) hS ls (lv_sub hl [2, 1, 0] rfl)
                · have z_18 : (sg f LN 59 ((cmd f LN x).1)).2 = false := bI_f c_16
                  refine lv_iconst (v := 1) hxq hb dX4_read_71 (by decide) ?_
                  refine lv_goto (tgt := 76) hxq hb dX4_read_72 (by decide) ?_
                  refine lv_istore_n (lv' := [(1, .int 1), (0, .ref sc), (2, .int (nI k))]) hxq hb dX4_read_76 rfl hl (by decide) rfl (fun ls hl => ?_)
                  refine lv_iinc (v := nI (k + 1)) (lv' := [(2, .int (nI (k + 1))), (1, .int 1), (0, .ref sc)]) hxq hb dX4_read_77 hl (k := 2) rfl (m_inc _) (by decide) rfl (fun ls hl => ?_)
                  refine lv_goto (tgt := 19) hxq hb dX4_read_80 (by decide) ?_
                  exact ih (k + 1) (by omega) (sg f LN 59 ((cmd f LN x).1)) (addC (cmd f LN x) cs) 1 (sg_le (by decide) (cmd_le hx)) (adN_le hn7) (Or.inl ⟨rfl, lp_go k_13' z_18 hR7⟩) H locs hP (m_D6 hD) hS ls (lv_sub hl [2, 1, 0] rfl)
  exact L_1 13 0 (by omega) ((0, false) : Lx) ((0, gk, g1, g2, g3) : Cs) 1 (Nat.zero_le _) (Nat.zero_le _) (Or.inl ⟨rfl, hR0⟩) _ _ hP (m_D6 hD) hS ls (lv_sub hl [2, 1, 0] rfl)

set_option maxRecDepth 100000 in
set_option maxHeartbeats 1000000 in
theorem c_X4_append (l : Launch) (G : va_G) (cy : Nat → ClassId) (sc tx kd fs sd td LN n : Nat) (x : Lx) (f : Nat → Int32) (c : Int32) (hl9 : LN < 60) (hc : vp_nar .char c = c) : WC l yX4_append wsX4_append { frames := 0, cells := 0, slots := 0, locals := 0 } G (PB G cy [(sc, .inr (8, [.ref tx, .int (nI LN), .int (nI x.1), .int (bI x.2), .int (nI n), .ref kd, .ref fs, .ref sd, .ref td])), (tx, .inl (cy 1, 60, .inl f))]) [.ref sc, .int c] [(sc, .inr (8, [.ref tx, .int (nI LN), .int (nI x.1), .int (bI x.2), .int (nI n), .ref kd, .ref fs, .ref sd, .ref td])), (tx, .inl (cy 1, 60, .inl f))] [(sc, .inr (8, [.ref tx, .int (nI (LN + 1)), .int (nI x.1), .int (bI x.2), .int (nI n), .ref kd, .ref fs, .ref sd, .ref td])), (tx, .inl (cy 1, 60, .inl (upd f LN c)))] (none) := by
  refine WC.ofW (cc := cX4_append) (maxL := 2) (ret := none) (by decide) rfl (Nat.le_of_ble_eq_true rfl) ?_
  intro p e s m below meth cq S9 hr hlocks hPB hD hS ls hl
  obtain ⟨hxq, hb, hml, hown, hts⟩ := id S9
  obtain ⟨hP, hK⟩ := hPB
  have hl : lv_has ls 2 [(0, .ref sc), (1, .int c)] := hl
  have hi8 : ∀ w ∈ wsX40, w ∈ wsX4_append := by decide +kernel
  have hf9 := hts (.fieldLink RX4 9 "BathLeague$Script" "text" "[C") (by decide +kernel)
  have hf15 := hts (.fieldLink RX4 15 "BathLeague$Script" "length" "I") (by decide +kernel)
  refine lv_aload_n hxq hb dX4_append_0 rfl (lv_at hl 0 rfl) ?_
  refine va_get (D := G) (ci := 8) (v := .ref tx) (C := RX4) (T := TX4) (N := 9) hxq hb hts hi8 hown hK.1 hP 0 rfl rfl 0 (by decide) hf9 (fun _ h9 => h9) rfl dX4_append_1 ?_
  refine lv_aload_n hxq hb dX4_append_4 rfl (lv_at hl 0 rfl) ?_
  refine va_get (D := G) (ci := 8) (v := .int (nI LN)) (C := RX4) (T := TX4) (N := 9) hxq hb hts hi8 hown hK.1 hP 0 rfl rfl 1 (by decide) hf15 (fun _ h9 => h9) rfl dX4_append_5 ?_
  refine lv_iload_n hxq hb dX4_append_8 rfl (lv_at hl 1 rfl) ?_
  refine m_cast hxq hb hK hP hD hS 1 (k := LN) rfl rfl (by omega) (Nat.le_of_ble_eq_true rfl) hc dX4_append_9 (fun H locs hP hD hS => ?_)
  have hP : va_P G vwCl [(sc, .inr (8, [.ref tx, .int (nI LN), .int (nI x.1), .int (bI x.2), .int (nI n), .ref kd, .ref fs, .ref sd, .ref td])), (tx, .inl (cy 1, 60, .inl (upd f LN c)))] H := hP
  have hD : va_D (wA [(sc, .inr (8, [.ref tx, .int (nI LN), .int (nI x.1), .int (bI x.2), .int (nI n), .ref kd, .ref fs, .ref sd, .ref td])), (tx, .inl (cy 1, 60, .inl f))]) [(sc, .inr (8, [.ref tx, .int (nI LN), .int (nI x.1), .int (bI x.2), .int (nI n), .ref kd, .ref fs, .ref sd, .ref td])), (tx, .inl (cy 1, 60, .inl (upd f LN c)))] := hD
  refine lv_aload_n hxq hb dX4_append_10 rfl (lv_at hl 0 rfl) ?_
  refine lv_dup hxq hb dX4_append_11 rfl ?_
  refine va_get (D := G) (ci := 8) (v := .int (nI LN)) (C := RX4) (T := TX4) (N := 9) hxq hb hts hi8 hown hK.1 hP 0 rfl rfl 1 (by decide) hf15 (fun _ h9 => h9) rfl dX4_append_12 ?_
  refine lv_iconst (v := 1) hxq hb dX4_append_15 (by decide) ?_
  refine lv_iadd hxq hb dX4_append_16 ?_
  refine lv_t0 (show (nI LN) + 1 = nI (LN + 1) from (m_add rfl rfl)) ?_
  refine va_put (D := G) (ci := 8) (v := .int (nI (LN + 1))) (ty := .int) (C := RX4) (T := TX4) (N := 9) hxq hb hts hi8 tyX4 tyX4_ok nmX4 hown hK.1 hP hD hS 0 rfl rfl 1 (by decide) hf15 (fun _ h9 => h9) rfl (by decide +kernel) rfl rfl (Nat.le_of_ble_eq_true rfl) dX4_append_17 (fun H locs hP hD hS => ?_)
  have hP : va_P G vwCl [(sc, .inr (8, [.ref tx, .int (nI (LN + 1)), .int (nI x.1), .int (bI x.2), .int (nI n), .ref kd, .ref fs, .ref sd, .ref td])), (tx, .inl (cy 1, 60, .inl (upd f LN c)))] H := hP
  have hD : va_D (wA [(sc, .inr (8, [.ref tx, .int (nI LN), .int (nI x.1), .int (bI x.2), .int (nI n), .ref kd, .ref fs, .ref sd, .ref td])), (tx, .inl (cy 1, 60, .inl f))]) [(sc, .inr (8, [.ref tx, .int (nI (LN + 1)), .int (nI x.1), .int (bI x.2), .int (nI n), .ref kd, .ref fs, .ref sd, .ref td])), (tx, .inl (cy 1, 60, .inl (upd f LN c)))] := hD
  exact wc_vret hxq hb hr hlocks hP hS dX4_append_20

set_option maxRecDepth 100000 in
set_option maxHeartbeats 1000000 in
theorem c_X4_empty (l : Launch) (G : va_G) (cy : Nat → ClassId) (sc tx kd fs sd td LN n : Nat) (x : Lx) : WC l yX4_empty wsX4_empty { frames := 0, cells := 0, slots := 0, locals := 0 } G (PB G cy [(sc, .inr (8, [.ref tx, .int (nI LN), .int (nI x.1), .int (bI x.2), .int (nI n), .ref kd, .ref fs, .ref sd, .ref td]))]) [.ref sc] [(sc, .inr (8, [.ref tx, .int (nI LN), .int (nI x.1), .int (bI x.2), .int (nI n), .ref kd, .ref fs, .ref sd, .ref td]))] [(sc, .inr (8, [.ref tx, .int (nI 0), .int (nI x.1), .int (bI x.2), .int (nI n), .ref kd, .ref fs, .ref sd, .ref td]))] (none) := by
  refine WC.ofW (cc := cX4_empty) (maxL := 1) (ret := none) (by decide) rfl (Nat.le_of_ble_eq_true rfl) ?_
  intro p e s m below meth cq S9 hr hlocks hPB hD hS ls hl
  obtain ⟨hxq, hb, hml, hown, hts⟩ := id S9
  obtain ⟨hP, hK⟩ := hPB
  have hl : lv_has ls 1 [(0, .ref sc)] := hl
  have hi8 : ∀ w ∈ wsX40, w ∈ wsX4_empty := by decide +kernel
  have hf15 := hts (.fieldLink RX4 15 "BathLeague$Script" "length" "I") (by decide +kernel)
  refine lv_aload_n hxq hb dX4_empty_0 rfl (lv_at hl 0 rfl) ?_
  refine lv_iconst (v := 0) hxq hb dX4_empty_1 (by decide) ?_
  refine va_put (D := G) (ci := 8) (v := .int 0) (ty := .int) (C := RX4) (T := TX4) (N := 9) hxq hb hts hi8 tyX4 tyX4_ok nmX4 hown hK.1 hP hD hS 0 rfl rfl 1 (by decide) hf15 (fun _ h9 => h9) rfl (by decide +kernel) rfl rfl (Nat.le_of_ble_eq_true rfl) dX4_empty_2 (fun H locs hP hD hS => ?_)
  have hP : va_P G vwCl [(sc, .inr (8, [.ref tx, .int 0, .int (nI x.1), .int (bI x.2), .int (nI n), .ref kd, .ref fs, .ref sd, .ref td]))] H := hP
  have hD : va_D (wA [(sc, .inr (8, [.ref tx, .int (nI LN), .int (nI x.1), .int (bI x.2), .int (nI n), .ref kd, .ref fs, .ref sd, .ref td]))]) [(sc, .inr (8, [.ref tx, .int 0, .int (nI x.1), .int (bI x.2), .int (nI n), .ref kd, .ref fs, .ref sd, .ref td]))] := hD
  have e_1 : nI 0 = 0 := rfl
  exact wc_vret hxq hb hr hlocks (by rw [e_1]; exact hP) hS dX4_empty_5
