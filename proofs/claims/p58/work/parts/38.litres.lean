/-! litres to a target, by trying and by the formula -/
def ltF (v h t g : Int32) : Nat → Int32 := fun k9 => (if (if t = 0 then rdeg (h + nI k9 * (10 + 30 * t)) (v + nI k9) ≤ g else ¬ rdeg (h + nI k9 * (10 + 30 * t)) (v + nI k9) < g) then (1 : Int32) else 0)
def coolF (x y : Int32) : Int32 := if x < 0 then 0 else if y ≤ 0 then -1 else x / y + 1
def warmF (x y : Int32) : Int32 := if x ≤ 0 then 0 else if y ≤ 0 then -1 else (x + y - 1) / y
def frm1 (v h t g : Int32) : Int32 := if t = 0 then coolF (h - (g + 1) * v) (g + 1 - (10 + 30 * t)) else warmF (g * v - h) (10 + 30 * t - g)
def frmF (v h t g : Int32) : Int32 := if frm1 v h t g ≤ 100 - v then frm1 v h t g else -1
set_option maxRecDepth 100000 in
set_option maxHeartbeats 1000000 in
theorem c_X7_litresToCool (l : Launch) (G : va_G) (cy : Nat → ClassId) (x y : Int32) : RO l yX7_litresToCool wsX7_litresToCool { frames := 0, cells := 0, slots := 0, locals := 0 } (PB G cy []) [.int x, .int y] (some (.int (coolF x y))) := by
  refine RO.ofW (cc := cX7_litresToCool) (maxL := 2) (ret := (some .int)) (by decide) rfl (Nat.le_of_ble_eq_true rfl) ?_
  intro p e s m below meth c S9 hr hlocks hPB ls hl
  obtain ⟨hx, hb, hml, hown, hts⟩ := id S9
  obtain ⟨hP, hK⟩ := hPB
  have hl : lv_has ls 2 [(0, .int x), (1, .int y)] := hl
  refine lv_iload_n hx hb dX7_litresToCool_0 rfl (lv_at hl 0 rfl) ?_
  refine lv_if_ge (tgt := 6) hx hb dX7_litresToCool_1 (by decide) (fun c_1 => ?_) (fun c_1 => ?_)
  · have c_1' : ¬ x < 0 := Int32.not_lt.mpr c_1
    refine lv_iload_n hx hb dX7_litresToCool_6 rfl (lv_at hl 1 rfl) ?_
    refine lv_if_le (tgt := 18) hx hb dX7_litresToCool_7 (by decide) (fun c_2 => ?_) (fun c_2 => ?_)
    · have c_2' : ¬ 0 < y := Int32.not_lt.mpr c_2
      refine lv_iconst (v := (-1)) hx hb dX7_litresToCool_18 (by decide) ?_
      exact ro_iret hx hb hr hlocks (by unfold coolF; simp [c_1', c_1, c_2', c_2]) dX7_litresToCool_19
    · have c_2' : 0 < y := Int32.not_le.mp c_2
      refine lv_iload_n hx hb dX7_litresToCool_10 rfl (lv_at hl 0 rfl) ?_
      refine lv_iload_n hx hb dX7_litresToCool_11 rfl (lv_at hl 1 rfl) ?_
      refine lv_idiv hx hb dX7_litresToCool_12 (m_nz c_2) ?_
      refine lv_iconst (v := 1) hx hb dX7_litresToCool_13 (by decide) ?_
      refine lv_iadd hx hb dX7_litresToCool_14 ?_
      refine lv_goto (tgt := 19) hx hb dX7_litresToCool_15 (by decide) ?_
      exact ro_iret hx hb hr hlocks (by unfold coolF; simp [c_1', c_1, c_2', c_2]) dX7_litresToCool_19
  · have c_1' : x < 0 := Int32.not_le.mp c_1
    refine lv_iconst (v := 0) hx hb dX7_litresToCool_4 (by decide) ?_
    exact ro_iret hx hb hr hlocks (by unfold coolF; simp [c_1', c_1]) dX7_litresToCool_5

set_option maxRecDepth 100000 in
set_option maxHeartbeats 1000000 in
theorem c_X7_litresToWarm (l : Launch) (G : va_G) (cy : Nat → ClassId) (x y : Int32) : RO l yX7_litresToWarm wsX7_litresToWarm { frames := 0, cells := 0, slots := 0, locals := 0 } (PB G cy []) [.int x, .int y] (some (.int (warmF x y))) := by
  refine RO.ofW (cc := cX7_litresToWarm) (maxL := 2) (ret := (some .int)) (by decide) rfl (Nat.le_of_ble_eq_true rfl) ?_
  intro p e s m below meth c S9 hr hlocks hPB ls hl
  obtain ⟨hx, hb, hml, hown, hts⟩ := id S9
  obtain ⟨hP, hK⟩ := hPB
  have hl : lv_has ls 2 [(0, .int x), (1, .int y)] := hl
  refine lv_iload_n hx hb dX7_litresToWarm_0 rfl (lv_at hl 0 rfl) ?_
  refine lv_if_gt (tgt := 6) hx hb dX7_litresToWarm_1 (by decide) (fun c_1 => ?_) (fun c_1 => ?_)
  · have c_1' : ¬ x ≤ 0 := Int32.not_le.mpr c_1
    refine lv_iload_n hx hb dX7_litresToWarm_6 rfl (lv_at hl 1 rfl) ?_
    refine lv_if_le (tgt := 20) hx hb dX7_litresToWarm_7 (by decide) (fun c_2 => ?_) (fun c_2 => ?_)
    · have c_2' : ¬ 0 < y := Int32.not_lt.mpr c_2
      refine lv_iconst (v := (-1)) hx hb dX7_litresToWarm_20 (by decide) ?_
      exact ro_iret hx hb hr hlocks (by unfold warmF; simp [c_1', c_1, c_2', c_2]) dX7_litresToWarm_21
    · have c_2' : 0 < y := Int32.not_le.mp c_2
      refine lv_iload_n hx hb dX7_litresToWarm_10 rfl (lv_at hl 0 rfl) ?_
      refine lv_iload_n hx hb dX7_litresToWarm_11 rfl (lv_at hl 1 rfl) ?_
      refine lv_iadd hx hb dX7_litresToWarm_12 ?_
      refine lv_iconst (v := 1) hx hb dX7_litresToWarm_13 (by decide) ?_
      refine lv_isub hx hb dX7_litresToWarm_14 ?_
      refine lv_iload_n hx hb dX7_litresToWarm_15 rfl (lv_at hl 1 rfl) ?_
      refine lv_idiv hx hb dX7_litresToWarm_16 (m_nz c_2) ?_
      refine lv_goto (tgt := 21) hx hb dX7_litresToWarm_17 (by decide) ?_
      exact ro_iret hx hb hr hlocks (by unfold warmF; simp [c_1', c_1, c_2', c_2]) dX7_litresToWarm_21
  · have c_1' : x ≤ 0 := Int32.not_lt.mp c_1
    refine lv_iconst (v := 0) hx hb dX7_litresToWarm_4 (by decide) ?_
    exact ro_iret hx hb hr hlocks (by unfold warmF; simp [c_1', c_1]) dX7_litresToWarm_5

set_option maxRecDepth 100000 in
set_option maxHeartbeats 1000000 in
theorem c_X7_litresByTrying (l : Launch) (G : va_G) (cy : Nat → ClassId) (v : Nat) (h t g R9 : Int32) (hv9 : v ≤ 100) (ht9 : tapB t = true) (hR0 : atF (ltF (nI v) h t g) 1 0 (101 - v) = R9) : RO l yX7_litresByTrying wsX7_litresByTrying { frames := 1, cells := 0, slots := 0, locals := 21 } (PT G cy []) [.int (nI v), .int h, .int t, .int g] (some (.int R9)) := by
  refine RO.ofW (cc := cX7_litresByTrying) (maxL := 6) (ret := (some .int)) (by decide) rfl (Nat.le_of_ble_eq_true rfl) ?_
  intro p e s m below meth c S9 hr hlocks hPB ls hl
  obtain ⟨hx, hb, hml, hown, hts⟩ := id S9
  obtain ⟨⟨hP, hK⟩, hTZ⟩ := hPB
  have hl : lv_has ls 6 [(0, .int (nI v)), (1, .int h), (2, .int t), (3, .int g)] := hl
  refine lv_iconst (v := 0) hx hb dX7_litresByTrying_0 (by decide) ?_
  refine lv_istore (lv' := [(4, .int 0), (0, .int (nI v)), (1, .int h), (2, .int t), (3, .int g)]) hx hb dX7_litresByTrying_1 hl (by decide) rfl (fun ls hl => ?_)
  have L_1 : ∀ (d k : Nat), k + d = (101 - v) → (atF (ltF (nI v) h t g) 1 k d = R9) → ∀ ls : Array Slot, lv_has ls 6 [(0, .int (nI v)), (1, .int h), (2, .int t), (3, .int g), (4, .int (nI k))] → W p l e ({ frames := 1, cells := 0, slots := 0, locals := 21 } : Room) s m ([.int (nI v), .int h, .int t, .int g] : List Value).toArray below meth c s.heap [] 0 0 (roZ below ([.int (nI v), .int h, .int t, .int g] : List Value).toArray s (some (.int R9))) (F0 m 3 ls []) := by
    intro d
    induction d with
    | zero =>
      intro k hkk hR ls hl
      refine lv_iload hx hb dX7_litresByTrying_3 (lv_at hl 4 rfl) ?_
      refine lv_bipush (v := 100) hx hb dX7_litresByTrying_5 (by decide) ?_
      refine lv_iload_n hx hb dX7_litresByTrying_7 rfl (lv_at hl 0 rfl) ?_
      refine lv_isub hx hb dX7_litresByTrying_8 ?_
      refine lv_t0 (show 100 - nI v = nI (100 - v) from m_sub (a := 100) rfl rfl (by omega)) ?_
      refine lv_icmp_gt (tgt := 59) hx hb dX7_litresByTrying_9 (by decide) (fun c_2 => ?_) (fun c_2 => ?_)
      · have k_3 : (100 - v) < k := (m_ltN (a := (100 - v)) (b := k) rfl rfl (by omega) (by omega)).mp c_2
        have k_3' : ¬ (k ≤ (100 - v)) := by omega
        refine lv_iconst (v := (-1)) hx hb dX7_litresByTrying_59 (by decide) ?_
        exact ro_iret hx hb hr hlocks (hR.symm.trans rfl).symm dX7_litresByTrying_60
      · have k_4 : ¬ ((100 - v) < k) := fun z => c_2 ((m_ltN (a := (100 - v)) (b := k) rfl rfl (by omega) (by omega)).mpr z)
        have k_4' : k ≤ (100 - v) := by omega
        exfalso; omega
    | succ d ih =>
      intro k hkk hR ls hl
      refine lv_iload hx hb dX7_litresByTrying_3 (lv_at hl 4 rfl) ?_
      refine lv_bipush (v := 100) hx hb dX7_litresByTrying_5 (by decide) ?_
      refine lv_iload_n hx hb dX7_litresByTrying_7 rfl (lv_at hl 0 rfl) ?_
      refine lv_isub hx hb dX7_litresByTrying_8 ?_
      refine lv_t0 (show 100 - nI v = nI (100 - v) from m_sub (a := 100) rfl rfl (by omega)) ?_
      refine lv_icmp_gt (tgt := 59) hx hb dX7_litresByTrying_9 (by decide) (fun c_5 => ?_) (fun c_5 => ?_)
      · have k_6 : (100 - v) < k := (m_ltN (a := (100 - v)) (b := k) rfl rfl (by omega) (by omega)).mp c_5
        have k_6' : ¬ (k ≤ (100 - v)) := by omega
        exfalso; omega
      · have k_7 : ¬ ((100 - v) < k) := fun z => c_5 ((m_ltN (a := (100 - v)) (b := k) rfl rfl (by omega) (by omega)).mpr z)
        have k_7' : k ≤ (100 - v) := by omega
        refine lv_iload_n hx hb dX7_litresByTrying_12 rfl (lv_at hl 1 rfl) ?_
        refine lv_iload hx hb dX7_litresByTrying_13 (lv_at hl 4 rfl) ?_
        obtain ⟨t_8, hz_t_8, hv_t_8⟩ := id hTZ
        refine va_gets hx hb hz_t_8 va_S.rf hown (hts (.fieldLink RX7 413 "BathLeague" "TAP_DEGREES" "[I") (by decide +kernel)) (fun _ h9 => h9) dX7_litresByTrying_15 ?_
        refine lv_iload_n hx hb dX7_litresByTrying_18 rfl (lv_at hl 2 rfl) ?_
        refine va_ti (v := .int (10 + 30 * t)) hx hb hv_t_8 va_S.rf (tap_in ht9) (tap_v ht9) dX7_litresByTrying_19 ?_
        refine lv_imul hx hb dX7_litresByTrying_20 ?_
        refine lv_iadd hx hb dX7_litresByTrying_21 ?_
        refine lv_iload_n hx hb dX7_litresByTrying_22 rfl (lv_at hl 0 rfl) ?_
        refine lv_iload hx hb dX7_litresByTrying_23 (lv_at hl 4 rfl) ?_
        refine lv_iadd hx hb dX7_litresByTrying_25 ?_
        refine c_roSi S9 (c_X7_roundedDegrees l G cy (h + ((nI k) * (10 + 30 * t))) ((nI v) + (nI k))) (va_cwS 2 hts gX7_litresByTrying_X7_roundedDegrees rfl rfl rfl (by decide +kernel) ⟨Nat.le_of_ble_eq_true rfl, Nat.le_of_ble_eq_true rfl⟩) PB.blind (PB.at hK (m_Ppart hP [] rfl)) rfl hl.1 rfl (Nat.le_of_ble_eq_true rfl) ⟨Nat.zero_le _, Nat.zero_le _⟩ dX7_litresByTrying_26 ?_
        refine lv_istore (lv' := [(5, .int (rdeg (h + ((nI k) * (10 + 30 * t))) ((nI v) + (nI k)))), (0, .int (nI v)), (1, .int h), (2, .int t), (3, .int g), (4, .int (nI k))]) hx hb dX7_litresByTrying_29 hl (by decide) rfl (fun ls hl => ?_)
        refine lv_iload_n hx hb dX7_litresByTrying_31 rfl (lv_at hl 3 rfl) ?_
        refine lv_if_ne (tgt := 44) hx hb dX7_litresByTrying_32 (by decide) (fun c_9 => ?_) (fun c_9 => ?_)
        · refine lv_iload hx hb dX7_litresByTrying_44 (lv_at hl 0 rfl) ?_
          refine lv_iload_n hx hb dX7_litresByTrying_46 rfl (lv_at hl 4 rfl) ?_
          refine lv_icmp_lt (tgt := 53) hx hb dX7_litresByTrying_47 (by decide) (fun c_10 => ?_) (fun c_10 => ?_)
          · have c_10' : ¬ g ≤ (rdeg (h + ((nI k) * (10 + 30 * t))) ((nI v) + (nI k))) := Int32.not_le.mpr c_10
            refine lv_iinc (v := nI (k + 1)) (lv' := [(4, .int (nI (k + 1))), (5, .int (rdeg (h + ((nI k) * (10 + 30 * t))) ((nI v) + (nI k)))), (0, .int (nI v)), (1, .int h), (2, .int t), (3, .int g)]) hx hb dX7_litresByTrying_53 hl (k := 5) rfl (m_inc _) (by decide) rfl (fun ls hl => ?_)
            refine lv_goto (tgt := 3) hx hb dX7_litresByTrying_56 (by decide) ?_
            exact ih (k + 1) (by omega) ((atF_no (by first | exact ltr01 (by assumption) (by assumption) | exact ltr11 (by assumption) (by assumption))).symm.trans hR) ls (lv_sub hl [2, 3, 4, 5, 0] rfl)
          · have c_10' : g ≤ (rdeg (h + ((nI k) * (10 + 30 * t))) ((nI v) + (nI k))) := Int32.not_lt.mp c_10
            refine lv_iload hx hb dX7_litresByTrying_50 (lv_at hl 5 rfl) ?_
            exact ro_iret hx hb hr hlocks ((atF_yes (by first | exact ltr00 (by assumption) (by assumption) | exact ltr10 (by assumption) (by assumption))).symm.trans hR) dX7_litresByTrying_52
        · refine lv_iload hx hb dX7_litresByTrying_35 (lv_at hl 0 rfl) ?_
          refine lv_iload_n hx hb dX7_litresByTrying_37 rfl (lv_at hl 4 rfl) ?_
          refine lv_icmp_gt (tgt := 53) hx hb dX7_litresByTrying_38 (by decide) (fun c_11 => ?_) (fun c_11 => ?_)
          · have c_11' : ¬ (rdeg (h + ((nI k) * (10 + 30 * t))) ((nI v) + (nI k))) ≤ g := Int32.not_le.mpr c_11
            refine lv_iinc (v := nI (k + 1)) (lv' := [(4, .int (nI (k + 1))), (5, .int (rdeg (h + ((nI k) * (10 + 30 * t))) ((nI v) + (nI k)))), (0, .int (nI v)), (1, .int h), (2, .int t), (3, .int g)]) hx hb dX7_litresByTrying_53 hl (k := 5) rfl (m_inc _) (by decide) rfl (fun ls hl => ?_)
            refine lv_goto (tgt := 3) hx hb dX7_litresByTrying_56 (by decide) ?_
            exact ih (k + 1) (by omega) ((atF_no (by first | exact ltr01 (by assumption) (by assumption) | exact ltr11 (by assumption) (by assumption))).symm.trans hR) ls (lv_sub hl [2, 3, 4, 5, 0] rfl)
          · have c_11' : (rdeg (h + ((nI k) * (10 + 30 * t))) ((nI v) + (nI k))) ≤ g := Int32.not_lt.mp c_11
            refine lv_goto (tgt := 50) hx hb dX7_litresByTrying_41 (by decide) ?_
            refine lv_iload hx hb dX7_litresByTrying_50 (lv_at hl 5 rfl) ?_
            exact ro_iret hx hb hr hlocks ((atF_yes (by first | exact ltr00 (by assumption) (by assumption) | exact ltr10 (by assumption) (by assumption))).symm.trans hR) dX7_litresByTrying_52
  exact L_1 (101 - v) 0 (by omega) hR0 ls (lv_sub hl [1, 2, 3, 4, 0] rfl)

set_option maxRecDepth 100000 in
set_option maxHeartbeats 1000000 in
theorem c_X7_litresByFormula (l : Launch) (G : va_G) (cy : Nat → ClassId) (v : Nat) (h t g : Int32) (hv9 : v ≤ 100) (ht9 : tapB t = true) : RO l yX7_litresByFormula wsX7_litresByFormula { frames := 1, cells := 0, slots := 0, locals := 21 } (PT G cy []) [.int (nI v), .int h, .int t, .int g] (some (.int (frmF (nI v) h t g))) := by
  refine RO.ofW (cc := cX7_litresByFormula) (maxL := 5) (ret := (some .int)) (by decide) rfl (Nat.le_of_ble_eq_true rfl) ?_
  intro p e s m below meth c S9 hr hlocks hPB ls hl
  obtain ⟨hx, hb, hml, hown, hts⟩ := id S9
  obtain ⟨⟨hP, hK⟩, hTZ⟩ := hPB
  have hl : lv_has ls 5 [(0, .int (nI v)), (1, .int h), (2, .int t), (3, .int g)] := hl
  refine lv_iload_n hx hb dX7_litresByFormula_0 rfl (lv_at hl 2 rfl) ?_
  refine lv_if_ne (tgt := 26) hx hb dX7_litresByFormula_1 (by decide) (fun c_1 => ?_) (fun c_1 => ?_)
  · refine lv_iload_n hx hb dX7_litresByFormula_26 rfl (lv_at hl 3 rfl) ?_
    refine lv_iload_n hx hb dX7_litresByFormula_27 rfl (lv_at hl 0 rfl) ?_
    refine lv_imul hx hb dX7_litresByFormula_28 ?_
    refine lv_iload_n hx hb dX7_litresByFormula_29 rfl (lv_at hl 1 rfl) ?_
    refine lv_isub hx hb dX7_litresByFormula_30 ?_
    obtain ⟨t_2, hz_t_2, hv_t_2⟩ := id hTZ
    refine va_gets hx hb hz_t_2 va_S.rf hown (hts (.fieldLink RX7 413 "BathLeague" "TAP_DEGREES" "[I") (by decide +kernel)) (fun _ h9 => h9) dX7_litresByFormula_31 ?_
    refine lv_iload_n hx hb dX7_litresByFormula_34 rfl (lv_at hl 2 rfl) ?_
    refine va_ti (v := .int (10 + 30 * t)) hx hb hv_t_2 va_S.rf (tap_in ht9) (tap_v ht9) dX7_litresByFormula_35 ?_
    refine lv_iload_n hx hb dX7_litresByFormula_36 rfl (lv_at hl 3 rfl) ?_
    refine lv_isub hx hb dX7_litresByFormula_37 ?_
    refine c_roSi S9 (c_X7_litresToWarm l G cy ((g * (nI v)) - h) ((10 + 30 * t) - g)) (va_cwS 2 hts gX7_litresByFormula_X7_litresToWarm rfl rfl rfl (by decide +kernel) ⟨Nat.le_of_ble_eq_true rfl, Nat.le_of_ble_eq_true rfl⟩) PB.blind (PB.at hK (m_Ppart hP [] rfl)) rfl hl.1 rfl (Nat.le_of_ble_eq_true rfl) ⟨Nat.zero_le _, Nat.zero_le _⟩ dX7_litresByFormula_38 ?_
    refine lv_istore (lv' := [(4, .int (warmF ((g * (nI v)) - h) ((10 + 30 * t) - g))), (0, .int (nI v)), (1, .int h), (2, .int t), (3, .int g)]) hx hb dX7_litresByFormula_41 hl (by decide) rfl (fun ls hl => ?_)
    refine lv_iload hx hb dX7_litresByFormula_43 (lv_at hl 0 rfl) ?_
    refine lv_bipush (v := 100) hx hb dX7_litresByFormula_45 (by decide) ?_
    refine lv_iload_n hx hb dX7_litresByFormula_47 rfl (lv_at hl 1 rfl) ?_
    refine lv_isub hx hb dX7_litresByFormula_48 ?_
    refine lv_icmp_gt (tgt := 57) hx hb dX7_litresByFormula_49 (by decide) (fun c_3 => ?_) (fun c_3 => ?_)
    · have c_3' : ¬ (warmF ((g * (nI v)) - h) ((10 + 30 * t) - g)) ≤ (100 - (nI v)) := Int32.not_le.mpr c_3
      refine lv_iconst (v := (-1)) hx hb dX7_litresByFormula_57 (by decide) ?_
      have e1 : frm1 (nI v) h t g = warmF ((g * (nI v)) - h) ((10 + 30 * t) - g) := if_neg c_1
      have e2 : frmF (nI v) h t g = -1 := by unfold frmF; rw [e1]; exact if_neg c_3'
      exact ro_iret hx hb hr hlocks e2.symm dX7_litresByFormula_58
    · have c_3' : (warmF ((g * (nI v)) - h) ((10 + 30 * t) - g)) ≤ (100 - (nI v)) := Int32.not_lt.mp c_3
      refine lv_iload hx hb dX7_litresByFormula_52 (lv_at hl 0 rfl) ?_
      refine lv_goto (tgt := 58) hx hb dX7_litresByFormula_54 (by decide) ?_
      have e1 : frm1 (nI v) h t g = warmF ((g * (nI v)) - h) ((10 + 30 * t) - g) := if_neg c_1
      have e2 : frmF (nI v) h t g = warmF ((g * (nI v)) - h) ((10 + 30 * t) - g) := by unfold frmF; rw [e1]; exact if_pos c_3'
      exact ro_iret hx hb hr hlocks e2.symm dX7_litresByFormula_58
  · refine lv_iload_n hx hb dX7_litresByFormula_4 rfl (lv_at hl 1 rfl) ?_
    refine lv_iload_n hx hb dX7_litresByFormula_5 rfl (lv_at hl 3 rfl) ?_
    refine lv_iconst (v := 1) hx hb dX7_litresByFormula_6 (by decide) ?_
    refine lv_iadd hx hb dX7_litresByFormula_7 ?_
    refine lv_iload_n hx hb dX7_litresByFormula_8 rfl (lv_at hl 0 rfl) ?_
    refine lv_imul hx hb dX7_litresByFormula_9 ?_
    refine lv_isub hx hb dX7_litresByFormula_10 ?_
    refine lv_iload_n hx hb dX7_litresByFormula_11 rfl (lv_at hl 3 rfl) ?_
    refine lv_iconst (v := 1) hx hb dX7_litresByFormula_12 (by decide) ?_
    refine lv_iadd hx hb dX7_litresByFormula_13 ?_
    obtain ⟨t_4, hz_t_4, hv_t_4⟩ := id hTZ
    refine va_gets hx hb hz_t_4 va_S.rf hown (hts (.fieldLink RX7 413 "BathLeague" "TAP_DEGREES" "[I") (by decide +kernel)) (fun _ h9 => h9) dX7_litresByFormula_14 ?_
    refine lv_iload_n hx hb dX7_litresByFormula_17 rfl (lv_at hl 2 rfl) ?_
    refine va_ti (v := .int (10 + 30 * t)) hx hb hv_t_4 va_S.rf (tap_in ht9) (tap_v ht9) dX7_litresByFormula_18 ?_
    refine lv_isub hx hb dX7_litresByFormula_19 ?_
    refine c_roSi S9 (c_X7_litresToCool l G cy (h - ((g + 1) * (nI v))) ((g + 1) - (10 + 30 * t))) (va_cwS 2 hts gX7_litresByFormula_X7_litresToCool rfl rfl rfl (by decide +kernel) ⟨Nat.le_of_ble_eq_true rfl, Nat.le_of_ble_eq_true rfl⟩) PB.blind (PB.at hK (m_Ppart hP [] rfl)) rfl hl.1 rfl (Nat.le_of_ble_eq_true rfl) ⟨Nat.zero_le _, Nat.zero_le _⟩ dX7_litresByFormula_20 ?_
    refine lv_goto (tgt := 41) hx hb dX7_litresByFormula_23 (by decide) ?_
    refine lv_istore (lv' := [(4, .int (coolF (h - ((g + 1) * (nI v))) ((g + 1) - (10 + 30 * t)))), (0, .int (nI v)), (1, .int h), (2, .int t), (3, .int g)]) hx hb dX7_litresByFormula_41 hl (by decide) rfl (fun ls hl => ?_)
    refine lv_iload hx hb dX7_litresByFormula_43 (lv_at hl 0 rfl) ?_
    refine lv_bipush (v := 100) hx hb dX7_litresByFormula_45 (by decide) ?_
    refine lv_iload_n hx hb dX7_litresByFormula_47 rfl (lv_at hl 1 rfl) ?_
    refine lv_isub hx hb dX7_litresByFormula_48 ?_
    refine lv_icmp_gt (tgt := 57) hx hb dX7_litresByFormula_49 (by decide) (fun c_5 => ?_) (fun c_5 => ?_)
    · have c_5' : ¬ (coolF (h - ((g + 1) * (nI v))) ((g + 1) - (10 + 30 * t))) ≤ (100 - (nI v)) := Int32.not_le.mpr c_5
      refine lv_iconst (v := (-1)) hx hb dX7_litresByFormula_57 (by decide) ?_
      have e1 : frm1 (nI v) h t g = coolF (h - ((g + 1) * (nI v))) ((g + 1) - (10 + 30 * t)) := if_pos c_1
      have e2 : frmF (nI v) h t g = -1 := by unfold frmF; rw [e1]; exact if_neg c_5'
      exact ro_iret hx hb hr hlocks e2.symm dX7_litresByFormula_58
    · have c_5' : (coolF (h - ((g + 1) * (nI v))) ((g + 1) - (10 + 30 * t))) ≤ (100 - (nI v)) := Int32.not_lt.mp c_5
      refine lv_iload hx hb dX7_litresByFormula_52 (lv_at hl 0 rfl) ?_
      refine lv_goto (tgt := 58) hx hb dX7_litresByFormula_54 (by decide) ?_
      have e1 : frm1 (nI v) h t g = coolF (h - ((g + 1) * (nI v))) ((g + 1) - (10 + 30 * t)) := if_pos c_1
      have e2 : frmF (nI v) h t g = coolF (h - ((g + 1) * (nI v))) ((g + 1) - (10 + 30 * t)) := by unfold frmF; rw [e1]; exact if_pos c_5'
      exact ro_iret hx hb hr hlocks e2.symm dX7_litresByFormula_58

set_option maxRecDepth 100000 in
set_option maxHeartbeats 1000000 in
theorem c_X7_litresToReach (l : Launch) (G : va_G) (cy : Nat → ClassId) (aX : Nat) (na tr sn : Nat → Nat) (hs : Int32) (hi sc : Nat) (ep fc : Int32) (ob : Nat) (σ : St) (j : Nat) (t g R9 : Int32) (ho : Ok σ) (hj : j < nB σ) (hbd : Bd (vB σ) (hB σ)) (ht9 : tapB t = true) (hg9 : inR g 0 99 = true) (hwt : wet (vB σ) j = true) (hR0 : atF (ltF (vB σ j) (hB σ j) t g) 1 0 (101 - bx (vB σ j)) = R9) (hx9 : ¬ R9 = -1) : RO l yX7_litresToReach wsX7_litresToReach { frames := 3, cells := 0, slots := 0, locals := 65 } (PT G cy [(aX, .inr (11, [.ref (na 0), .ref (tr 0), .ref (sn 0), .int hs, .ref hi, .ref sc, .int ep, .int fc, .ref ob])), (na 0, .inr (9, [.ref (na 1), .ref (na 2), .ref (na 3), .ref (na 4)])), (na 1, .inr (4, [.int (nI (nB σ)), .ref (na 5), .ref (na 6), .ref (na 7), .ref (na 8)])), (na 5, .inl (cy 2, 5, .inl (vB σ))), (na 6, .inl (cy 2, 5, .inl (hB σ))), (na 7, .inl (cy 3, 5, .inl (pB σ))), (na 8, .inl (cy 3, 5, .inl (mB σ))), (na 2, .inr (5, [.int (nI (nD σ)), .ref (na 9), .ref (na 10), .ref (na 11), .ref (na 12), .ref (na 13)])), (na 9, .inl (cy 2, 6, .inl (bD σ))), (na 10, .inl (cy 2, 6, .inl (lD σ))), (na 11, .inl (cy 2, 6, .inl (uD σ))), (na 12, .inl (cy 2, 6, .inl (qD σ))), (na 13, .inl (cy 3, 6, .inl (wD σ))), (na 3, .inr (6, [.int (nI (nE σ)), .ref (na 14), .ref (na 15), .ref (na 16)])), (na 14, .inl (cy 1, 10, .inl (kE σ))), (na 15, .inl (cy 2, 10, .inl (bE σ))), (na 16, .inl (cy 2, 10, .inl (lE σ))), (na 4, .inr (10, [.int (tT σ), .int (dT σ), .int (aT σ), .int (rT σ), .int (hT σ), .int (xT σ)]))]) [.ref aX, .int (nI j), .int t, .int g] (some (.int R9)) := by
  refine RO.ofW (cc := cX7_litresToReach) (maxL := 4) (ret := (some .int)) (by decide) rfl (Nat.le_of_ble_eq_true rfl) ?_
  intro p e s m below meth c S9 hr hlocks hPB ls hl
  obtain ⟨hx, hb, hml, hown, hts⟩ := id S9
  obtain ⟨⟨hP, hK⟩, hTZ⟩ := hPB
  have hl : lv_has ls 4 [(0, .ref aX), (1, .int (nI j)), (2, .int t), (3, .int g)] := hl
  have hi4 : ∀ w ∈ wsX00, w ∈ wsX7_litresToReach := by decide +kernel
  have hi9 : ∀ w ∈ wsX50, w ∈ wsX7_litresToReach := by decide +kernel
  have hi11 : ∀ w ∈ wsX70, w ∈ wsX7_litresToReach := by decide +kernel
  have hf12 := hts (.fieldLink RX7 12 "BathLeague" "now" "LBathLeague$State;") (by decide +kernel)
  have hf77 := hts (.fieldLink RX7 77 "BathLeague$State" "baths" "LBathLeague$Baths;") (by decide +kernel)
  have hf81 := hts (.fieldLink RX7 81 "BathLeague$Baths" "volume" "[I") (by decide +kernel)
  have hf147 := hts (.fieldLink RX7 147 "BathLeague$Baths" "heat" "[I") (by decide +kernel)
  have hN0 := ho.1
  have hM0 := ho.2.1
  have hE0 := ho.2.2.1
  have hvb := bx_v hbd (show j < 5 by omega)
  have hv9 : vB σ j = nI (bx (vB σ j)) := hvb.1
  have hv8 := hvb.2
  refine lv_aload_n hx hb dX7_litresToReach_0 rfl (lv_at hl 0 rfl) ?_
  refine lv_iload_n hx hb dX7_litresToReach_1 rfl (lv_at hl 1 rfl) ?_
  refine lv_iload_n hx hb dX7_litresToReach_2 rfl (lv_at hl 2 rfl) ?_
  refine lv_iload_n hx hb dX7_litresToReach_3 rfl (lv_at hl 3 rfl) ?_
  refine c_roVv S9 (c_X7_requirePlan l G cy aX na tr sn hs hi sc ep fc ob σ j t g ho hj ht9 hg9 hwt) (cwV 3 hts gX7_litresToReach_X7_requirePlan rfl rfl rfl (by decide +kernel) ⟨Nat.le_of_ble_eq_true rfl, Nat.le_of_ble_eq_true rfl⟩) PB.blind (va_recv hK.1 hP (ci := 11) (q0 := 0) rfl rfl) (PB.at hK (m_Ppart hP [0, 1, 2, 3, 4, 5, 6, 7, 8, 9, 10, 11, 12, 13, 14, 15, 16, 17] rfl)) rfl hl.1 rfl (Nat.le_of_ble_eq_true rfl) ⟨Nat.zero_le _, Nat.zero_le _⟩ dX7_litresToReach_4 ?_
  refine lv_aload_n hx hb dX7_litresToReach_7 rfl (lv_at hl 0 rfl) ?_
  refine va_get (D := G) (ci := 11) (v := .ref (na 0)) (C := RX7) (T := TX7) (N := 9) hx hb hts hi11 hown hK.1 hP 0 rfl rfl 0 (by decide) hf12 (fun _ h9 => h9) rfl dX7_litresToReach_8 ?_
  refine va_get (D := G) (ci := 9) (v := .ref (na 1)) (C := RX5) (T := TX5) (N := 4) hx hb hts hi9 hown hK.1 hP 1 rfl rfl 0 (by decide) hf77 (fun _ h9 => h9) rfl dX7_litresToReach_11 ?_
  refine va_get (D := G) (ci := 4) (v := .ref (na 5)) (C := RX0) (T := TX0) (N := 5) hx hb hts hi4 hown hK.1 hP 2 rfl rfl 1 (by decide) hf81 (fun _ h9 => h9) rfl dX7_litresToReach_14 ?_
  refine lv_iload_n hx hb dX7_litresToReach_17 rfl (lv_at hl 1 rfl) ?_
  refine m_iald hx hb hK hP 3 (k := j) rfl rfl (by omega) (Nat.le_of_ble_eq_true rfl) dX7_litresToReach_18 ?_
  refine lv_aload_n hx hb dX7_litresToReach_19 rfl (lv_at hl 0 rfl) ?_
  refine va_get (D := G) (ci := 11) (v := .ref (na 0)) (C := RX7) (T := TX7) (N := 9) hx hb hts hi11 hown hK.1 hP 0 rfl rfl 0 (by decide) hf12 (fun _ h9 => h9) rfl dX7_litresToReach_20 ?_
  refine va_get (D := G) (ci := 9) (v := .ref (na 1)) (C := RX5) (T := TX5) (N := 4) hx hb hts hi9 hown hK.1 hP 1 rfl rfl 0 (by decide) hf77 (fun _ h9 => h9) rfl dX7_litresToReach_23 ?_
  refine va_get (D := G) (ci := 4) (v := .ref (na 6)) (C := RX0) (T := TX0) (N := 5) hx hb hts hi4 hown hK.1 hP 2 rfl rfl 2 (by decide) hf147 (fun _ h9 => h9) rfl dX7_litresToReach_26 ?_
  refine lv_iload_n hx hb dX7_litresToReach_29 rfl (lv_at hl 1 rfl) ?_
  refine m_iald hx hb hK hP 4 (k := j) rfl rfl (by omega) (Nat.le_of_ble_eq_true rfl) dX7_litresToReach_30 ?_
  refine lv_iload_n hx hb dX7_litresToReach_31 rfl (lv_at hl 2 rfl) ?_
  refine lv_iload_n hx hb dX7_litresToReach_32 rfl (lv_at hl 3 rfl) ?_
  refine lv_t3 (show (vB σ) j = nI (bx (vB σ j)) from hv9) ?_
  refine c_roSi S9 (c_X7_litresByTrying l G cy (bx (vB σ j)) ((hB σ) j) t g R9 hv8 ht9 (by rw [← hv9]; exact hR0)) (va_cwS 4 hts gX7_litresToReach_X7_litresByTrying rfl rfl rfl (by decide +kernel) ⟨Nat.le_of_ble_eq_true rfl, Nat.le_of_ble_eq_true rfl⟩) PT.blind (PT.at hTZ va_S.rf (fun q h9 => absurd h9 (wA_nil q)) hK (m_Ppart hP [] rfl)) rfl hl.1 rfl (Nat.le_of_ble_eq_true rfl) ⟨Nat.zero_le _, Nat.zero_le _⟩ dX7_litresToReach_33 ?_
  refine c_roSi S9 (c_X7_requireLitres l G cy R9 hx9) (va_cwS 1 hts gX7_litresToReach_X7_requireLitres rfl rfl rfl (by decide +kernel) ⟨Nat.le_of_ble_eq_true rfl, Nat.le_of_ble_eq_true rfl⟩) PB.blind (PB.at hK (m_Ppart hP [] rfl)) rfl hl.1 rfl (Nat.le_of_ble_eq_true rfl) ⟨Nat.zero_le _, Nat.zero_le _⟩ dX7_litresToReach_36 ?_
  exact ro_iret hx hb hr hlocks rfl dX7_litresToReach_39

set_option maxRecDepth 100000 in
set_option maxHeartbeats 1000000 in
theorem c_X7_litresToReachByFormula (l : Launch) (G : va_G) (cy : Nat → ClassId) (aX : Nat) (na tr sn : Nat → Nat) (hs : Int32) (hi sc : Nat) (ep fc : Int32) (ob : Nat) (σ : St) (j : Nat) (t g : Int32) (ho : Ok σ) (hj : j < nB σ) (hbd : Bd (vB σ) (hB σ)) (ht9 : tapB t = true) (hg9 : inR g 0 99 = true) (hwt : wet (vB σ) j = true) (hx9 : ¬ frmF (vB σ j) (hB σ j) t g = -1) : RO l yX7_litresToReachByFormula wsX7_litresToReachByFormula { frames := 3, cells := 0, slots := 0, locals := 65 } (PT G cy [(aX, .inr (11, [.ref (na 0), .ref (tr 0), .ref (sn 0), .int hs, .ref hi, .ref sc, .int ep, .int fc, .ref ob])), (na 0, .inr (9, [.ref (na 1), .ref (na 2), .ref (na 3), .ref (na 4)])), (na 1, .inr (4, [.int (nI (nB σ)), .ref (na 5), .ref (na 6), .ref (na 7), .ref (na 8)])), (na 5, .inl (cy 2, 5, .inl (vB σ))), (na 6, .inl (cy 2, 5, .inl (hB σ))), (na 7, .inl (cy 3, 5, .inl (pB σ))), (na 8, .inl (cy 3, 5, .inl (mB σ))), (na 2, .inr (5, [.int (nI (nD σ)), .ref (na 9), .ref (na 10), .ref (na 11), .ref (na 12), .ref (na 13)])), (na 9, .inl (cy 2, 6, .inl (bD σ))), (na 10, .inl (cy 2, 6, .inl (lD σ))), (na 11, .inl (cy 2, 6, .inl (uD σ))), (na 12, .inl (cy 2, 6, .inl (qD σ))), (na 13, .inl (cy 3, 6, .inl (wD σ))), (na 3, .inr (6, [.int (nI (nE σ)), .ref (na 14), .ref (na 15), .ref (na 16)])), (na 14, .inl (cy 1, 10, .inl (kE σ))), (na 15, .inl (cy 2, 10, .inl (bE σ))), (na 16, .inl (cy 2, 10, .inl (lE σ))), (na 4, .inr (10, [.int (tT σ), .int (dT σ), .int (aT σ), .int (rT σ), .int (hT σ), .int (xT σ)]))]) [.ref aX, .int (nI j), .int t, .int g] (some (.int (frmF (vB σ j) (hB σ j) t g))) := by
  refine RO.ofW (cc := cX7_litresToReachByFormula) (maxL := 4) (ret := (some .int)) (by decide) rfl (Nat.le_of_ble_eq_true rfl) ?_
  intro p e s m below meth c S9 hr hlocks hPB ls hl
  obtain ⟨hx, hb, hml, hown, hts⟩ := id S9
  obtain ⟨⟨hP, hK⟩, hTZ⟩ := hPB
  have hl : lv_has ls 4 [(0, .ref aX), (1, .int (nI j)), (2, .int t), (3, .int g)] := hl
  have hi4 : ∀ w ∈ wsX00, w ∈ wsX7_litresToReachByFormula := by decide +kernel
  have hi9 : ∀ w ∈ wsX50, w ∈ wsX7_litresToReachByFormula := by decide +kernel
  have hi11 : ∀ w ∈ wsX70, w ∈ wsX7_litresToReachByFormula := by decide +kernel
  have hf12 := hts (.fieldLink RX7 12 "BathLeague" "now" "LBathLeague$State;") (by decide +kernel)
  have hf77 := hts (.fieldLink RX7 77 "BathLeague$State" "baths" "LBathLeague$Baths;") (by decide +kernel)
  have hf81 := hts (.fieldLink RX7 81 "BathLeague$Baths" "volume" "[I") (by decide +kernel)
  have hf147 := hts (.fieldLink RX7 147 "BathLeague$Baths" "heat" "[I") (by decide +kernel)
  have hN0 := ho.1
  have hM0 := ho.2.1
  have hE0 := ho.2.2.1
  have hvb := bx_v hbd (show j < 5 by omega)
  have hv9 : vB σ j = nI (bx (vB σ j)) := hvb.1
  have hv8 := hvb.2
  refine lv_aload_n hx hb dX7_litresToReachByFormula_0 rfl (lv_at hl 0 rfl) ?_
  refine lv_iload_n hx hb dX7_litresToReachByFormula_1 rfl (lv_at hl 1 rfl) ?_
  refine lv_iload_n hx hb dX7_litresToReachByFormula_2 rfl (lv_at hl 2 rfl) ?_
  refine lv_iload_n hx hb dX7_litresToReachByFormula_3 rfl (lv_at hl 3 rfl) ?_
  refine c_roVv S9 (c_X7_requirePlan l G cy aX na tr sn hs hi sc ep fc ob σ j t g ho hj ht9 hg9 hwt) (cwV 3 hts gX7_litresToReachByFormula_X7_requirePlan rfl rfl rfl (by decide +kernel) ⟨Nat.le_of_ble_eq_true rfl, Nat.le_of_ble_eq_true rfl⟩) PB.blind (va_recv hK.1 hP (ci := 11) (q0 := 0) rfl rfl) (PB.at hK (m_Ppart hP [0, 1, 2, 3, 4, 5, 6, 7, 8, 9, 10, 11, 12, 13, 14, 15, 16, 17] rfl)) rfl hl.1 rfl (Nat.le_of_ble_eq_true rfl) ⟨Nat.zero_le _, Nat.zero_le _⟩ dX7_litresToReachByFormula_4 ?_
  refine lv_aload_n hx hb dX7_litresToReachByFormula_7 rfl (lv_at hl 0 rfl) ?_
  refine va_get (D := G) (ci := 11) (v := .ref (na 0)) (C := RX7) (T := TX7) (N := 9) hx hb hts hi11 hown hK.1 hP 0 rfl rfl 0 (by decide) hf12 (fun _ h9 => h9) rfl dX7_litresToReachByFormula_8 ?_
  refine va_get (D := G) (ci := 9) (v := .ref (na 1)) (C := RX5) (T := TX5) (N := 4) hx hb hts hi9 hown hK.1 hP 1 rfl rfl 0 (by decide) hf77 (fun _ h9 => h9) rfl dX7_litresToReachByFormula_11 ?_
  refine va_get (D := G) (ci := 4) (v := .ref (na 5)) (C := RX0) (T := TX0) (N := 5) hx hb hts hi4 hown hK.1 hP 2 rfl rfl 1 (by decide) hf81 (fun _ h9 => h9) rfl dX7_litresToReachByFormula_14 ?_
  refine lv_iload_n hx hb dX7_litresToReachByFormula_17 rfl (lv_at hl 1 rfl) ?_
  refine m_iald hx hb hK hP 3 (k := j) rfl rfl (by omega) (Nat.le_of_ble_eq_true rfl) dX7_litresToReachByFormula_18 ?_
  refine lv_aload_n hx hb dX7_litresToReachByFormula_19 rfl (lv_at hl 0 rfl) ?_
  refine va_get (D := G) (ci := 11) (v := .ref (na 0)) (C := RX7) (T := TX7) (N := 9) hx hb hts hi11 hown hK.1 hP 0 rfl rfl 0 (by decide) hf12 (fun _ h9 => h9) rfl dX7_litresToReachByFormula_20 ?_
  refine va_get (D := G) (ci := 9) (v := .ref (na 1)) (C := RX5) (T := TX5) (N := 4) hx hb hts hi9 hown hK.1 hP 1 rfl rfl 0 (by decide) hf77 (fun _ h9 => h9) rfl dX7_litresToReachByFormula_23 ?_
  refine va_get (D := G) (ci := 4) (v := .ref (na 6)) (C := RX0) (T := TX0) (N := 5) hx hb hts hi4 hown hK.1 hP 2 rfl rfl 2 (by decide) hf147 (fun _ h9 => h9) rfl dX7_litresToReachByFormula_26 ?_
  refine lv_iload_n hx hb dX7_litresToReachByFormula_29 rfl (lv_at hl 1 rfl) ?_
  refine m_iald hx hb hK hP 4 (k := j) rfl rfl (by omega) (Nat.le_of_ble_eq_true rfl) dX7_litresToReachByFormula_30 ?_
  refine lv_iload_n hx hb dX7_litresToReachByFormula_31 rfl (lv_at hl 2 rfl) ?_
  refine lv_iload_n hx hb dX7_litresToReachByFormula_32 rfl (lv_at hl 3 rfl) ?_
  refine lv_t3 (show (vB σ) j = nI (bx (vB σ j)) from hv9) ?_
  refine c_roSi S9 (c_X7_litresByFormula l G cy (bx (vB σ j)) ((hB σ) j) t g hv8 ht9) (va_cwS 4 hts gX7_litresToReachByFormula_X7_litresByFormula rfl rfl rfl (by decide +kernel) ⟨Nat.le_of_ble_eq_true rfl, Nat.le_of_ble_eq_true rfl⟩) PT.blind (PT.at hTZ va_S.rf (fun q h9 => absurd h9 (wA_nil q)) hK (m_Ppart hP [] rfl)) rfl hl.1 rfl (Nat.le_of_ble_eq_true rfl) ⟨Nat.zero_le _, Nat.zero_le _⟩ dX7_litresToReachByFormula_33 ?_
  refine lv_t0 (show (frmF (nI (bx (vB σ j))) ((hB σ) j) t g) = frmF (vB σ j) (hB σ j) t g from by rw [← hv9]) ?_
  refine c_roSi S9 (c_X7_requireLitres l G cy (frmF (vB σ j) (hB σ j) t g) hx9) (va_cwS 1 hts gX7_litresToReachByFormula_X7_requireLitres rfl rfl rfl (by decide +kernel) ⟨Nat.le_of_ble_eq_true rfl, Nat.le_of_ble_eq_true rfl⟩) PB.blind (PB.at hK (m_Ppart hP [] rfl)) rfl hl.1 rfl (Nat.le_of_ble_eq_true rfl) ⟨Nat.zero_le _, Nat.zero_le _⟩ dX7_litresToReachByFormula_36 ?_
  exact ro_iret hx hb hr hlocks rfl dX7_litresToReachByFormula_39

set_option maxRecDepth 100000 in
set_option maxHeartbeats 1000000 in
theorem t_litresToReach4 (l : Launch) (G : va_G) (cy : Nat → ClassId) (aX : Nat) (na tr sn : Nat → Nat) (hs : Int32) (hi sc : Nat) (ep fc : Int32) (ob : Nat) (σ : St) (j : Nat) (t g R9 : Int32) (hl9 : l.stackTraces = false) (ho : Ok σ) (hj : j < nB σ) (hbd : Bd (vB σ) (hB σ)) (ht9 : tapB t = true) (hg9 : inR g 0 99 = true) (hwt : wet (vB σ) j = true) (hR0 : atF (ltF (vB σ j) (hB σ j) t g) 1 0 (101 - bx (vB σ j)) = R9) (hx9 : R9 = -1) : TX l yX7_litresToReach wsX7_litresToReach { frames := 7, cells := 1, slots := 6, locals := 110 } G (PX G cy [(aX, .inr (11, [.ref (na 0), .ref (tr 0), .ref (sn 0), .int hs, .ref hi, .ref sc, .int ep, .int fc, .ref ob])), (na 0, .inr (9, [.ref (na 1), .ref (na 2), .ref (na 3), .ref (na 4)])), (na 1, .inr (4, [.int (nI (nB σ)), .ref (na 5), .ref (na 6), .ref (na 7), .ref (na 8)])), (na 5, .inl (cy 2, 5, .inl (vB σ))), (na 6, .inl (cy 2, 5, .inl (hB σ))), (na 7, .inl (cy 3, 5, .inl (pB σ))), (na 8, .inl (cy 3, 5, .inl (mB σ))), (na 2, .inr (5, [.int (nI (nD σ)), .ref (na 9), .ref (na 10), .ref (na 11), .ref (na 12), .ref (na 13)])), (na 9, .inl (cy 2, 6, .inl (bD σ))), (na 10, .inl (cy 2, 6, .inl (lD σ))), (na 11, .inl (cy 2, 6, .inl (uD σ))), (na 12, .inl (cy 2, 6, .inl (qD σ))), (na 13, .inl (cy 3, 6, .inl (wD σ))), (na 3, .inr (6, [.int (nI (nE σ)), .ref (na 14), .ref (na 15), .ref (na 16)])), (na 14, .inl (cy 1, 10, .inl (kE σ))), (na 15, .inl (cy 2, 10, .inl (bE σ))), (na 16, .inl (cy 2, 10, .inl (lE σ))), (na 4, .inr (10, [.int (tT σ), .int (dT σ), .int (aT σ), .int (rT σ), .int (hT σ), .int (xT σ)]))]) [.ref aX, .int (nI j), .int t, .int g] [(aX, .inr (11, [.ref (na 0), .ref (tr 0), .ref (sn 0), .int hs, .ref hi, .ref sc, .int ep, .int fc, .ref ob])), (na 0, .inr (9, [.ref (na 1), .ref (na 2), .ref (na 3), .ref (na 4)])), (na 1, .inr (4, [.int (nI (nB σ)), .ref (na 5), .ref (na 6), .ref (na 7), .ref (na 8)])), (na 5, .inl (cy 2, 5, .inl (vB σ))), (na 6, .inl (cy 2, 5, .inl (hB σ))), (na 7, .inl (cy 3, 5, .inl (pB σ))), (na 8, .inl (cy 3, 5, .inl (mB σ))), (na 2, .inr (5, [.int (nI (nD σ)), .ref (na 9), .ref (na 10), .ref (na 11), .ref (na 12), .ref (na 13)])), (na 9, .inl (cy 2, 6, .inl (bD σ))), (na 10, .inl (cy 2, 6, .inl (lD σ))), (na 11, .inl (cy 2, 6, .inl (uD σ))), (na 12, .inl (cy 2, 6, .inl (qD σ))), (na 13, .inl (cy 3, 6, .inl (wD σ))), (na 3, .inr (6, [.int (nI (nE σ)), .ref (na 14), .ref (na 15), .ref (na 16)])), (na 14, .inl (cy 1, 10, .inl (kE σ))), (na 15, .inl (cy 2, 10, .inl (bE σ))), (na 16, .inl (cy 2, 10, .inl (lE σ))), (na 4, .inr (10, [.int (tT σ), .int (dT σ), .int (aT σ), .int (rT σ), .int (hT σ), .int (xT σ)]))] [(aX, .inr (11, [.ref (na 0), .ref (tr 0), .ref (sn 0), .int hs, .ref hi, .ref sc, .int ep, .int fc, .ref ob])), (na 0, .inr (9, [.ref (na 1), .ref (na 2), .ref (na 3), .ref (na 4)])), (na 1, .inr (4, [.int (nI (nB σ)), .ref (na 5), .ref (na 6), .ref (na 7), .ref (na 8)])), (na 5, .inl (cy 2, 5, .inl (vB σ))), (na 6, .inl (cy 2, 5, .inl (hB σ))), (na 7, .inl (cy 3, 5, .inl (pB σ))), (na 8, .inl (cy 3, 5, .inl (mB σ))), (na 2, .inr (5, [.int (nI (nD σ)), .ref (na 9), .ref (na 10), .ref (na 11), .ref (na 12), .ref (na 13)])), (na 9, .inl (cy 2, 6, .inl (bD σ))), (na 10, .inl (cy 2, 6, .inl (lD σ))), (na 11, .inl (cy 2, 6, .inl (uD σ))), (na 12, .inl (cy 2, 6, .inl (qD σ))), (na 13, .inl (cy 3, 6, .inl (wD σ))), (na 3, .inr (6, [.int (nI (nE σ)), .ref (na 14), .ref (na 15), .ref (na 16)])), (na 14, .inl (cy 1, 10, .inl (kE σ))), (na 15, .inl (cy 2, 10, .inl (bE σ))), (na 16, .inl (cy 2, 10, .inl (lE σ))), (na 4, .inr (10, [.int (tT σ), .int (dT σ), .int (aT σ), .int (rT σ), .int (hT σ), .int (xT σ)]))] xUOE := by
  refine TX.ofW (cc := cX7_litresToReach) (maxL := 4) (ret := (some .int)) (by decide) rfl (Nat.le_of_ble_eq_true rfl) ?_
  intro p e s m below meth c S9 htb hlocks hPB hD hS ls hl
  obtain ⟨hx, hb, hml, hown, hts⟩ := id S9
  obtain ⟨⟨⟨hP, hK⟩, hTZ⟩, hXS⟩ := hPB
  have hl : lv_has ls 4 [(0, .ref aX), (1, .int (nI j)), (2, .int t), (3, .int g)] := hl
  have hi4 : ∀ w ∈ wsX00, w ∈ wsX7_litresToReach := by decide +kernel
  have hi9 : ∀ w ∈ wsX50, w ∈ wsX7_litresToReach := by decide +kernel
  have hi11 : ∀ w ∈ wsX70, w ∈ wsX7_litresToReach := by decide +kernel
  have hf12 := hts (.fieldLink RX7 12 "BathLeague" "now" "LBathLeague$State;") (by decide +kernel)
  have hf77 := hts (.fieldLink RX7 77 "BathLeague$State" "baths" "LBathLeague$Baths;") (by decide +kernel)
  have hf81 := hts (.fieldLink RX7 81 "BathLeague$Baths" "volume" "[I") (by decide +kernel)
  have hf147 := hts (.fieldLink RX7 147 "BathLeague$Baths" "heat" "[I") (by decide +kernel)
  have hN0 := ho.1
  have hM0 := ho.2.1
  have hE0 := ho.2.2.1
  have hvb := bx_v hbd (show j < 5 by omega)
  have hv9 : vB σ j = nI (bx (vB σ j)) := hvb.1
  have hv8 := hvb.2
  refine lv_aload_n hx hb dX7_litresToReach_0 rfl (lv_at hl 0 rfl) ?_
  refine lv_iload_n hx hb dX7_litresToReach_1 rfl (lv_at hl 1 rfl) ?_
  refine lv_iload_n hx hb dX7_litresToReach_2 rfl (lv_at hl 2 rfl) ?_
  refine lv_iload_n hx hb dX7_litresToReach_3 rfl (lv_at hl 3 rfl) ?_
  refine c_roVv S9 (c_X7_requirePlan l G cy aX na tr sn hs hi sc ep fc ob σ j t g ho hj ht9 hg9 hwt) (cwV 3 hts gX7_litresToReach_X7_requirePlan rfl rfl rfl (by decide +kernel) ⟨Nat.le_of_ble_eq_true rfl, Nat.le_of_ble_eq_true rfl⟩) PB.blind (va_recv hK.1 hP (ci := 11) (q0 := 0) rfl rfl) (PB.at hK (m_Ppart hP [0, 1, 2, 3, 4, 5, 6, 7, 8, 9, 10, 11, 12, 13, 14, 15, 16, 17] rfl)) rfl hl.1 rfl (Nat.le_of_ble_eq_true rfl) ⟨Nat.zero_le _, Nat.zero_le _⟩ dX7_litresToReach_4 ?_
  refine lv_aload_n hx hb dX7_litresToReach_7 rfl (lv_at hl 0 rfl) ?_
  refine va_get (D := G) (ci := 11) (v := .ref (na 0)) (C := RX7) (T := TX7) (N := 9) hx hb hts hi11 hown hK.1 hP 0 rfl rfl 0 (by decide) hf12 (fun _ h9 => h9) rfl dX7_litresToReach_8 ?_
  refine va_get (D := G) (ci := 9) (v := .ref (na 1)) (C := RX5) (T := TX5) (N := 4) hx hb hts hi9 hown hK.1 hP 1 rfl rfl 0 (by decide) hf77 (fun _ h9 => h9) rfl dX7_litresToReach_11 ?_
  refine va_get (D := G) (ci := 4) (v := .ref (na 5)) (C := RX0) (T := TX0) (N := 5) hx hb hts hi4 hown hK.1 hP 2 rfl rfl 1 (by decide) hf81 (fun _ h9 => h9) rfl dX7_litresToReach_14 ?_
  refine lv_iload_n hx hb dX7_litresToReach_17 rfl (lv_at hl 1 rfl) ?_
  refine m_iald hx hb hK hP 3 (k := j) rfl rfl (by omega) (Nat.le_of_ble_eq_true rfl) dX7_litresToReach_18 ?_
  refine lv_aload_n hx hb dX7_litresToReach_19 rfl (lv_at hl 0 rfl) ?_
  refine va_get (D := G) (ci := 11) (v := .ref (na 0)) (C := RX7) (T := TX7) (N := 9) hx hb hts hi11 hown hK.1 hP 0 rfl rfl 0 (by decide) hf12 (fun _ h9 => h9) rfl dX7_litresToReach_20 ?_
  refine va_get (D := G) (ci := 9) (v := .ref (na 1)) (C := RX5) (T := TX5) (N := 4) hx hb hts hi9 hown hK.1 hP 1 rfl rfl 0 (by decide) hf77 (fun _ h9 => h9) rfl dX7_litresToReach_23 ?_
  refine va_get (D := G) (ci := 4) (v := .ref (na 6)) (C := RX0) (T := TX0) (N := 5) hx hb hts hi4 hown hK.1 hP 2 rfl rfl 2 (by decide) hf147 (fun _ h9 => h9) rfl dX7_litresToReach_26 ?_
  refine lv_iload_n hx hb dX7_litresToReach_29 rfl (lv_at hl 1 rfl) ?_
  refine m_iald hx hb hK hP 4 (k := j) rfl rfl (by omega) (Nat.le_of_ble_eq_true rfl) dX7_litresToReach_30 ?_
  refine lv_iload_n hx hb dX7_litresToReach_31 rfl (lv_at hl 2 rfl) ?_
  refine lv_iload_n hx hb dX7_litresToReach_32 rfl (lv_at hl 3 rfl) ?_
  refine lv_t3 (show (vB σ) j = nI (bx (vB σ j)) from hv9) ?_
  refine c_roSi S9 (c_X7_litresByTrying l G cy (bx (vB σ j)) ((hB σ) j) t g R9 hv8 ht9 (by rw [← hv9]; exact hR0)) (va_cwS 4 hts gX7_litresToReach_X7_litresByTrying rfl rfl rfl (by decide +kernel) ⟨Nat.le_of_ble_eq_true rfl, Nat.le_of_ble_eq_true rfl⟩) PT.blind (PT.at hTZ hS (fun q h9 => absurd h9 (wA_nil q)) hK (m_Ppart hP [] rfl)) rfl hl.1 rfl (Nat.le_of_ble_eq_true rfl) ⟨Nat.zero_le _, Nat.zero_le _⟩ dX7_litresToReach_33 ?_
  exact c_txS S9 (t_requireLitres l G cy R9 hl9 hx9) (va_cwS 1 hts gX7_litresToReach_X7_requireLitres rfl rfl rfl (by decide +kernel) ⟨Nat.le_of_ble_eq_true rfl, Nat.le_of_ble_eq_true rfl⟩) PX.blind (PX.at hXS hTZ hS (fun q h9 => absurd h9 (wA_nil q)) hK (m_Ppart hP [] rfl)) hP hD hS [] rfl rfl rfl (wsets_id rfl) rfl hl.1 rfl (Nat.le_of_ble_eq_true rfl) ⟨Nat.le_refl _, Nat.le_refl _⟩ dX7_litresToReach_36 htb hlocks ⟨rfl, rfl⟩

set_option maxRecDepth 100000 in
set_option maxHeartbeats 1000000 in
theorem t_litresToReachByFormula4 (l : Launch) (G : va_G) (cy : Nat → ClassId) (aX : Nat) (na tr sn : Nat → Nat) (hs : Int32) (hi sc : Nat) (ep fc : Int32) (ob : Nat) (σ : St) (j : Nat) (t g : Int32) (hl9 : l.stackTraces = false) (ho : Ok σ) (hj : j < nB σ) (hbd : Bd (vB σ) (hB σ)) (ht9 : tapB t = true) (hg9 : inR g 0 99 = true) (hwt : wet (vB σ) j = true) (hx9 : frmF (vB σ j) (hB σ j) t g = -1) : TX l yX7_litresToReachByFormula wsX7_litresToReachByFormula { frames := 7, cells := 1, slots := 6, locals := 110 } G (PX G cy [(aX, .inr (11, [.ref (na 0), .ref (tr 0), .ref (sn 0), .int hs, .ref hi, .ref sc, .int ep, .int fc, .ref ob])), (na 0, .inr (9, [.ref (na 1), .ref (na 2), .ref (na 3), .ref (na 4)])), (na 1, .inr (4, [.int (nI (nB σ)), .ref (na 5), .ref (na 6), .ref (na 7), .ref (na 8)])), (na 5, .inl (cy 2, 5, .inl (vB σ))), (na 6, .inl (cy 2, 5, .inl (hB σ))), (na 7, .inl (cy 3, 5, .inl (pB σ))), (na 8, .inl (cy 3, 5, .inl (mB σ))), (na 2, .inr (5, [.int (nI (nD σ)), .ref (na 9), .ref (na 10), .ref (na 11), .ref (na 12), .ref (na 13)])), (na 9, .inl (cy 2, 6, .inl (bD σ))), (na 10, .inl (cy 2, 6, .inl (lD σ))), (na 11, .inl (cy 2, 6, .inl (uD σ))), (na 12, .inl (cy 2, 6, .inl (qD σ))), (na 13, .inl (cy 3, 6, .inl (wD σ))), (na 3, .inr (6, [.int (nI (nE σ)), .ref (na 14), .ref (na 15), .ref (na 16)])), (na 14, .inl (cy 1, 10, .inl (kE σ))), (na 15, .inl (cy 2, 10, .inl (bE σ))), (na 16, .inl (cy 2, 10, .inl (lE σ))), (na 4, .inr (10, [.int (tT σ), .int (dT σ), .int (aT σ), .int (rT σ), .int (hT σ), .int (xT σ)]))]) [.ref aX, .int (nI j), .int t, .int g] [(aX, .inr (11, [.ref (na 0), .ref (tr 0), .ref (sn 0), .int hs, .ref hi, .ref sc, .int ep, .int fc, .ref ob])), (na 0, .inr (9, [.ref (na 1), .ref (na 2), .ref (na 3), .ref (na 4)])), (na 1, .inr (4, [.int (nI (nB σ)), .ref (na 5), .ref (na 6), .ref (na 7), .ref (na 8)])), (na 5, .inl (cy 2, 5, .inl (vB σ))), (na 6, .inl (cy 2, 5, .inl (hB σ))), (na 7, .inl (cy 3, 5, .inl (pB σ))), (na 8, .inl (cy 3, 5, .inl (mB σ))), (na 2, .inr (5, [.int (nI (nD σ)), .ref (na 9), .ref (na 10), .ref (na 11), .ref (na 12), .ref (na 13)])), (na 9, .inl (cy 2, 6, .inl (bD σ))), (na 10, .inl (cy 2, 6, .inl (lD σ))), (na 11, .inl (cy 2, 6, .inl (uD σ))), (na 12, .inl (cy 2, 6, .inl (qD σ))), (na 13, .inl (cy 3, 6, .inl (wD σ))), (na 3, .inr (6, [.int (nI (nE σ)), .ref (na 14), .ref (na 15), .ref (na 16)])), (na 14, .inl (cy 1, 10, .inl (kE σ))), (na 15, .inl (cy 2, 10, .inl (bE σ))), (na 16, .inl (cy 2, 10, .inl (lE σ))), (na 4, .inr (10, [.int (tT σ), .int (dT σ), .int (aT σ), .int (rT σ), .int (hT σ), .int (xT σ)]))] [(aX, .inr (11, [.ref (na 0), .ref (tr 0), .ref (sn 0), .int hs, .ref hi, .ref sc, .int ep, .int fc, .ref ob])), (na 0, .inr (9, [.ref (na 1), .ref (na 2), .ref (na 3), .ref (na 4)])), (na 1, .inr (4, [.int (nI (nB σ)), .ref (na 5), .ref (na 6), .ref (na 7), .ref (na 8)])), (na 5, .inl (cy 2, 5, .inl (vB σ))), (na 6, .inl (cy 2, 5, .inl (hB σ))), (na 7, .inl (cy 3, 5, .inl (pB σ))), (na 8, .inl (cy 3, 5, .inl (mB σ))), (na 2, .inr (5, [.int (nI (nD σ)), .ref (na 9), .ref (na 10), .ref (na 11), .ref (na 12), .ref (na 13)])), (na 9, .inl (cy 2, 6, .inl (bD σ))), (na 10, .inl (cy 2, 6, .inl (lD σ))), (na 11, .inl (cy 2, 6, .inl (uD σ))), (na 12, .inl (cy 2, 6, .inl (qD σ))), (na 13, .inl (cy 3, 6, .inl (wD σ))), (na 3, .inr (6, [.int (nI (nE σ)), .ref (na 14), .ref (na 15), .ref (na 16)])), (na 14, .inl (cy 1, 10, .inl (kE σ))), (na 15, .inl (cy 2, 10, .inl (bE σ))), (na 16, .inl (cy 2, 10, .inl (lE σ))), (na 4, .inr (10, [.int (tT σ), .int (dT σ), .int (aT σ), .int (rT σ), .int (hT σ), .int (xT σ)]))] xUOE := by
  refine TX.ofW (cc := cX7_litresToReachByFormula) (maxL := 4) (ret := (some .int)) (by decide) rfl (Nat.le_of_ble_eq_true rfl) ?_
  intro p e s m below meth c S9 htb hlocks hPB hD hS ls hl
  obtain ⟨hx, hb, hml, hown, hts⟩ := id S9
  obtain ⟨⟨⟨hP, hK⟩, hTZ⟩, hXS⟩ := hPB
  have hl : lv_has ls 4 [(0, .ref aX), (1, .int (nI j)), (2, .int t), (3, .int g)] := hl
  have hi4 : ∀ w ∈ wsX00, w ∈ wsX7_litresToReachByFormula := by decide +kernel
  have hi9 : ∀ w ∈ wsX50, w ∈ wsX7_litresToReachByFormula := by decide +kernel
  have hi11 : ∀ w ∈ wsX70, w ∈ wsX7_litresToReachByFormula := by decide +kernel
  have hf12 := hts (.fieldLink RX7 12 "BathLeague" "now" "LBathLeague$State;") (by decide +kernel)
  have hf77 := hts (.fieldLink RX7 77 "BathLeague$State" "baths" "LBathLeague$Baths;") (by decide +kernel)
  have hf81 := hts (.fieldLink RX7 81 "BathLeague$Baths" "volume" "[I") (by decide +kernel)
  have hf147 := hts (.fieldLink RX7 147 "BathLeague$Baths" "heat" "[I") (by decide +kernel)
  have hN0 := ho.1
  have hM0 := ho.2.1
  have hE0 := ho.2.2.1
  have hvb := bx_v hbd (show j < 5 by omega)
  have hv9 : vB σ j = nI (bx (vB σ j)) := hvb.1
  have hv8 := hvb.2
  refine lv_aload_n hx hb dX7_litresToReachByFormula_0 rfl (lv_at hl 0 rfl) ?_
  refine lv_iload_n hx hb dX7_litresToReachByFormula_1 rfl (lv_at hl 1 rfl) ?_
  refine lv_iload_n hx hb dX7_litresToReachByFormula_2 rfl (lv_at hl 2 rfl) ?_
  refine lv_iload_n hx hb dX7_litresToReachByFormula_3 rfl (lv_at hl 3 rfl) ?_
  refine c_roVv S9 (c_X7_requirePlan l G cy aX na tr sn hs hi sc ep fc ob σ j t g ho hj ht9 hg9 hwt) (cwV 3 hts gX7_litresToReachByFormula_X7_requirePlan rfl rfl rfl (by decide +kernel) ⟨Nat.le_of_ble_eq_true rfl, Nat.le_of_ble_eq_true rfl⟩) PB.blind (va_recv hK.1 hP (ci := 11) (q0 := 0) rfl rfl) (PB.at hK (m_Ppart hP [0, 1, 2, 3, 4, 5, 6, 7, 8, 9, 10, 11, 12, 13, 14, 15, 16, 17] rfl)) rfl hl.1 rfl (Nat.le_of_ble_eq_true rfl) ⟨Nat.zero_le _, Nat.zero_le _⟩ dX7_litresToReachByFormula_4 ?_
  refine lv_aload_n hx hb dX7_litresToReachByFormula_7 rfl (lv_at hl 0 rfl) ?_
  refine va_get (D := G) (ci := 11) (v := .ref (na 0)) (C := RX7) (T := TX7) (N := 9) hx hb hts hi11 hown hK.1 hP 0 rfl rfl 0 (by decide) hf12 (fun _ h9 => h9) rfl dX7_litresToReachByFormula_8 ?_
  refine va_get (D := G) (ci := 9) (v := .ref (na 1)) (C := RX5) (T := TX5) (N := 4) hx hb hts hi9 hown hK.1 hP 1 rfl rfl 0 (by decide) hf77 (fun _ h9 => h9) rfl dX7_litresToReachByFormula_11 ?_
  refine va_get (D := G) (ci := 4) (v := .ref (na 5)) (C := RX0) (T := TX0) (N := 5) hx hb hts hi4 hown hK.1 hP 2 rfl rfl 1 (by decide) hf81 (fun _ h9 => h9) rfl dX7_litresToReachByFormula_14 ?_
  refine lv_iload_n hx hb dX7_litresToReachByFormula_17 rfl (lv_at hl 1 rfl) ?_
  refine m_iald hx hb hK hP 3 (k := j) rfl rfl (by omega) (Nat.le_of_ble_eq_true rfl) dX7_litresToReachByFormula_18 ?_
  refine lv_aload_n hx hb dX7_litresToReachByFormula_19 rfl (lv_at hl 0 rfl) ?_
  refine va_get (D := G) (ci := 11) (v := .ref (na 0)) (C := RX7) (T := TX7) (N := 9) hx hb hts hi11 hown hK.1 hP 0 rfl rfl 0 (by decide) hf12 (fun _ h9 => h9) rfl dX7_litresToReachByFormula_20 ?_
  refine va_get (D := G) (ci := 9) (v := .ref (na 1)) (C := RX5) (T := TX5) (N := 4) hx hb hts hi9 hown hK.1 hP 1 rfl rfl 0 (by decide) hf77 (fun _ h9 => h9) rfl dX7_litresToReachByFormula_23 ?_
  refine va_get (D := G) (ci := 4) (v := .ref (na 6)) (C := RX0) (T := TX0) (N := 5) hx hb hts hi4 hown hK.1 hP 2 rfl rfl 2 (by decide) hf147 (fun _ h9 => h9) rfl dX7_litresToReachByFormula_26 ?_
  refine lv_iload_n hx hb dX7_litresToReachByFormula_29 rfl (lv_at hl 1 rfl) ?_
  refine m_iald hx hb hK hP 4 (k := j) rfl rfl (by omega) (Nat.le_of_ble_eq_true rfl) dX7_litresToReachByFormula_30 ?_
  refine lv_iload_n hx hb dX7_litresToReachByFormula_31 rfl (lv_at hl 2 rfl) ?_
  refine lv_iload_n hx hb dX7_litresToReachByFormula_32 rfl (lv_at hl 3 rfl) ?_
  refine lv_t3 (show (vB σ) j = nI (bx (vB σ j)) from hv9) ?_
  refine c_roSi S9 (c_X7_litresByFormula l G cy (bx (vB σ j)) ((hB σ) j) t g hv8 ht9) (va_cwS 4 hts gX7_litresToReachByFormula_X7_litresByFormula rfl rfl rfl (by decide +kernel) ⟨Nat.le_of_ble_eq_true rfl, Nat.le_of_ble_eq_true rfl⟩) PT.blind (PT.at hTZ hS (fun q h9 => absurd h9 (wA_nil q)) hK (m_Ppart hP [] rfl)) rfl hl.1 rfl (Nat.le_of_ble_eq_true rfl) ⟨Nat.zero_le _, Nat.zero_le _⟩ dX7_litresToReachByFormula_33 ?_
  refine lv_t0 (show (frmF (nI (bx (vB σ j))) ((hB σ) j) t g) = frmF (vB σ j) (hB σ j) t g from by rw [← hv9]) ?_
  exact c_txS S9 (t_requireLitres l G cy (frmF (vB σ j) (hB σ j) t g) hl9 hx9) (va_cwS 1 hts gX7_litresToReachByFormula_X7_requireLitres rfl rfl rfl (by decide +kernel) ⟨Nat.le_of_ble_eq_true rfl, Nat.le_of_ble_eq_true rfl⟩) PX.blind (PX.at hXS hTZ hS (fun q h9 => absurd h9 (wA_nil q)) hK (m_Ppart hP [] rfl)) hP hD hS [] rfl rfl rfl (wsets_id rfl) rfl hl.1 rfl (Nat.le_of_ble_eq_true rfl) ⟨Nat.le_refl _, Nat.le_refl _⟩ dX7_litresToReachByFormula_36 htb hlocks ⟨rfl, rfl⟩

set_option maxRecDepth 100000 in
set_option maxHeartbeats 1000000 in
theorem c_X7_ticksUntilDefection (l : Launch) (G : va_G) (cy : Nat → ClassId) (aX : Nat) (na tr sn : Nat → Nat) (hs : Int32) (hi sc : Nat) (ep fc : Int32) (ob : Nat) (σ τ : St) (j n9 : Nat) (ho : Ok σ) (hj : j < nB σ) (hm9 : ¬ mB σ j = 0) (hn9 : n9 < 1000) (hR0 : atF (fun k9 => mB (tickN σ k9) j) 0 1 60 = nI n9) : WC l yX7_ticksUntilDefection wsX7_ticksUntilDefection { frames := 4, cells := 0, slots := 0, locals := 88 } G (PB G cy (fl [[(aX, .inr (11, [.ref (na 0), .ref (tr 0), .ref (sn 0), .int hs, .ref hi, .ref sc, .int ep, .int fc, .ref ob]))], sWd cy na σ, sWd cy tr τ])) [.ref aX, .int (nI j)] (fl [[(aX, .inr (11, [.ref (na 0), .ref (tr 0), .ref (sn 0), .int hs, .ref hi, .ref sc, .int ep, .int fc, .ref ob]))], sWd cy na σ, sWd cy tr τ]) (fl [[(aX, .inr (11, [.ref (na 0), .ref (tr 0), .ref (sn 0), .int hs, .ref hi, .ref sc, .int ep, .int fc, .ref ob]))], sWd cy na σ, sWd cy tr (tickN σ n9)]) (some (.int (nI n9))) := by
  refine WC.ofW (cc := cX7_ticksUntilDefection) (maxL := 3) (ret := (some .int)) (by decide) rfl (Nat.le_of_ble_eq_true rfl) ?_
  intro p e s m below meth c S9 hr hlocks hPB hD hS ls hl
  obtain ⟨hx, hb, hml, hown, hts⟩ := id S9
  obtain ⟨hP, hK⟩ := hPB
  have hl : lv_has ls 3 [(0, .ref aX), (1, .int (nI j))] := hl
  have hi4 : ∀ w ∈ wsX00, w ∈ wsX7_ticksUntilDefection := by decide +kernel
  have hi9 : ∀ w ∈ wsX50, w ∈ wsX7_ticksUntilDefection := by decide +kernel
  have hi11 : ∀ w ∈ wsX70, w ∈ wsX7_ticksUntilDefection := by decide +kernel
  have hf12 := hts (.fieldLink RX7 12 "BathLeague" "now" "LBathLeague$State;") (by decide +kernel)
  have hf16 := hts (.fieldLink RX7 16 "BathLeague" "trial" "LBathLeague$State;") (by decide +kernel)
  have hf77 := hts (.fieldLink RX7 77 "BathLeague$State" "baths" "LBathLeague$Baths;") (by decide +kernel)
  have hf180 := hts (.fieldLink RX7 180 "BathLeague$Baths" "member" "[Z") (by decide +kernel)
  have hN0 := ho.1
  have hM0 := ho.2.1
  have hE0 := ho.2.2.1
  refine lv_aload_n hx hb dX7_ticksUntilDefection_0 rfl (lv_at hl 0 rfl) ?_
  refine lv_iload_n hx hb dX7_ticksUntilDefection_1 rfl (lv_at hl 1 rfl) ?_
  refine c_roVv S9 (c_X7_requireBath l G cy aX na tr sn hs hi sc ep fc ob σ j ho hj) (cwV 1 hts gX7_ticksUntilDefection_X7_requireBath rfl rfl rfl (by decide +kernel) ⟨Nat.le_of_ble_eq_true rfl, Nat.le_of_ble_eq_true rfl⟩) PB.blind (va_recv hK.1 hP (ci := 11) (q0 := 0) rfl rfl) (PB.at hK (PpartC (Wc := [[(aX, .inr (11, [.ref (na 0), .ref (tr 0), .ref (sn 0), .int hs, .ref hi, .ref sc, .int ep, .int fc, .ref ob]))], sWd cy na σ, sWd cy tr τ]) (cs := [[(aX, .inr (11, [.ref (na 0), .ref (tr 0), .ref (sn 0), .int hs, .ref hi, .ref sc, .int ep, .int fc, .ref ob]))], sWd cy na σ]) hP [0, 1] rfl)) rfl hl.1 rfl (Nat.le_of_ble_eq_true rfl) ⟨Nat.zero_le _, Nat.zero_le _⟩ dX7_ticksUntilDefection_2 ?_
  refine lv_aload_n hx hb dX7_ticksUntilDefection_5 rfl (lv_at hl 0 rfl) ?_
  refine va_get (D := G) (ci := 11) (v := .ref (na 0)) (C := RX7) (T := TX7) (N := 9) hx hb hts hi11 hown hK.1 hP 0 rfl rfl 0 (by decide) hf12 (fun _ h9 => h9) rfl dX7_ticksUntilDefection_6 ?_
  refine va_get (D := G) (ci := 9) (v := .ref (na 1)) (C := RX5) (T := TX5) (N := 4) hx hb hts hi9 hown hK.1 hP 1 rfl rfl 0 (by decide) hf77 (fun _ h9 => h9) rfl dX7_ticksUntilDefection_9 ?_
  refine va_get (D := G) (ci := 4) (v := .ref (na 8)) (C := RX0) (T := TX0) (N := 5) hx hb hts hi4 hown hK.1 hP 2 rfl rfl 4 (by decide) hf180 (fun _ h9 => h9) rfl dX7_ticksUntilDefection_12 ?_
  refine lv_iload_n hx hb dX7_ticksUntilDefection_15 rfl (lv_at hl 1 rfl) ?_
  refine m_zald hx hb hK hP 6 (k := j) rfl rfl (by omega) (Nat.le_of_ble_eq_true rfl) dX7_ticksUntilDefection_16 ?_
  refine lv_if_ne (tgt := 30) hx hb dX7_ticksUntilDefection_17 (by decide) (fun c_1 => ?_) (fun c_1 => ?_)
  · refine lv_aload_n hx hb dX7_ticksUntilDefection_30 rfl (lv_at hl 0 rfl) ?_
    refine va_get (D := G) (ci := 11) (v := .ref (tr 0)) (C := RX7) (T := TX7) (N := 9) hx hb hts hi11 hown hK.1 hP 0 rfl rfl 1 (by decide) hf16 (fun _ h9 => h9) rfl dX7_ticksUntilDefection_31 ?_
    refine lv_aload_n hx hb dX7_ticksUntilDefection_34 rfl (lv_at hl 0 rfl) ?_
    refine va_get (D := G) (ci := 11) (v := .ref (na 0)) (C := RX7) (T := TX7) (N := 9) hx hb hts hi11 hown hK.1 hP 0 rfl rfl 0 (by decide) hf12 (fun _ h9 => h9) rfl dX7_ticksUntilDefection_35 ?_
    refine c_wcVv (ws' := fl [[(aX, .inr (11, [.ref (na 0), .ref (tr 0), .ref (sn 0), .int hs, .ref hi, .ref sc, .int ep, .int fc, .ref ob]))], sWd cy na σ, sWd cy tr σ]) S9 (c_X5_copyFrom l G cy tr τ na σ ho) (cwV 1 hts gX7_ticksUntilDefection_X5_copyFrom rfl rfl rfl (by decide +kernel) ⟨Nat.le_of_ble_eq_true rfl, Nat.le_of_ble_eq_true rfl⟩) PB.blind (va_recv hK.1 hP (ci := 9) (q0 := 18) rfl rfl) (PB.at hK (PpartC (Wc := [[(aX, .inr (11, [.ref (na 0), .ref (tr 0), .ref (sn 0), .int hs, .ref hi, .ref sc, .int ep, .int fc, .ref ob]))], sWd cy na σ, sWd cy tr τ]) (cs := [sWd cy tr τ, sWd cy na σ]) hP [2, 1] rfl)) hP hD hS (poss [[(aX, .inr (11, [.ref (na 0), .ref (tr 0), .ref (sn 0), .int hs, .ref hi, .ref sc, .int ep, .int fc, .ref ob]))], sWd cy na σ, sWd cy tr τ] [2, 1]) (poss_F (cs := [sWd cy tr τ, sWd cy na σ]) rfl) (poss_nd (by decide)) rfl (wsets_F (cs := [sWd cy tr τ, sWd cy na σ]) (ns := [sWd cy tr σ, sWd cy na σ]) rfl (by decide) rfl) rfl hl.1 rfl (Nat.le_of_ble_eq_true rfl) ⟨Nat.zero_le _, Nat.zero_le _⟩ dX7_ticksUntilDefection_38 (fun H locs hP hD hS => ?_)
    refine lv_iconst (v := 1) hx hb dX7_ticksUntilDefection_41 (by decide) ?_
    refine lv_istore_n (lv' := [(2, .int 1), (0, .ref aX), (1, .int (nI j))]) hx hb dX7_ticksUntilDefection_42 rfl hl (by decide) rfl (fun ls hl => ?_)
    have L_2 : ∀ (d k : Nat), k + d = 60 → (atF (fun k9 => mB (tickN σ k9) j) 0 (k + 1) d = nI n9) → ∀ (H : Heap) (locs : List Loc), va_P G vwCl (fl [[(aX, .inr (11, [.ref (na 0), .ref (tr 0), .ref (sn 0), .int hs, .ref hi, .ref sc, .int ep, .int fc, .ref ob]))], sWd cy na σ, sWd cy tr (tickN σ k)]) H → va_D (wA (fl [[(aX, .inr (11, [.ref (na 0), .ref (tr 0), .ref (sn 0), .int hs, .ref hi, .ref sc, .int ep, .int fc, .ref ob]))], sWd cy na σ, sWd cy tr τ])) (fl [[(aX, .inr (11, [.ref (na 0), .ref (tr 0), .ref (sn 0), .int hs, .ref hi, .ref sc, .int ep, .int fc, .ref ob]))], sWd cy na σ, sWd cy tr (tickN σ k)]) → va_S (wA (fl [[(aX, .inr (11, [.ref (na 0), .ref (tr 0), .ref (sn 0), .int hs, .ref hi, .ref sc, .int ep, .int fc, .ref ob]))], sWd cy na σ, sWd cy tr τ])) s.heap H locs → ∀ ls : Array Slot, lv_has ls 3 [(0, .ref aX), (1, .int (nI j)), (2, .int (nI (k + 1)))] → W p l e ({ frames := 4, cells := 0, slots := 0, locals := 88 } : Room) s m ([.ref aX, .int (nI j)] : List Value).toArray below meth c H locs 0 0 (wcZ below ([.ref aX, .int (nI j)] : List Value).toArray s G (fl [[(aX, .inr (11, [.ref (na 0), .ref (tr 0), .ref (sn 0), .int hs, .ref hi, .ref sc, .int ep, .int fc, .ref ob]))], sWd cy na σ, sWd cy tr τ]) (fl [[(aX, .inr (11, [.ref (na 0), .ref (tr 0), .ref (sn 0), .int hs, .ref hi, .ref sc, .int ep, .int fc, .ref ob]))], sWd cy na σ, sWd cy tr (tickN σ n9)]) (some (.int (nI n9)))) (F0 m 43 ls []) := by
      intro d
      induction d with
      | zero =>
        intro k hkk hR H locs hP hD hS ls hl
        have hok := ok_tickN ho k
        refine lv_iload_n hx hb dX7_ticksUntilDefection_43 rfl (lv_at hl 2 rfl) ?_
        refine lv_bipush (v := 60) hx hb dX7_ticksUntilDefection_44 (by decide) ?_
        refine lv_icmp_gt (tgt := 79) hx hb dX7_ticksUntilDefection_46 (by decide) (fun c_3 => ?_) (fun c_3 => ?_)
        · have k_4 : 60 < k + 1 := (m_ltN (a := 60) (b := k + 1) rfl rfl (by omega) (by omega)).mp c_3
          have k_4' : ¬ (k + 1 ≤ 60) := by omega
          exact absurd hR.symm (m_nIne (by omega))
        · have k_5 : ¬ (60 < k + 1) := fun z => c_3 ((m_ltN (a := 60) (b := k + 1) rfl rfl (by omega) (by omega)).mpr z)
          have k_5' : k + 1 ≤ 60 := by omega
          exfalso; omega
      | succ d ih =>
        intro k hkk hR H locs hP hD hS ls hl
        have hok := ok_tickN ho k
        refine lv_iload_n hx hb dX7_ticksUntilDefection_43 rfl (lv_at hl 2 rfl) ?_
        refine lv_bipush (v := 60) hx hb dX7_ticksUntilDefection_44 (by decide) ?_
        refine lv_icmp_gt (tgt := 79) hx hb dX7_ticksUntilDefection_46 (by decide) (fun c_6 => ?_) (fun c_6 => ?_)
        · have k_7 : 60 < k + 1 := (m_ltN (a := 60) (b := k + 1) rfl rfl (by omega) (by omega)).mp c_6
          have k_7' : ¬ (k + 1 ≤ 60) := by omega
          exfalso; omega
        · have k_8 : ¬ (60 < k + 1) := fun z => c_6 ((m_ltN (a := 60) (b := k + 1) rfl rfl (by omega) (by omega)).mpr z)
          have k_8' : k + 1 ≤ 60 := by omega
          refine lv_aload_n hx hb dX7_ticksUntilDefection_49 rfl (lv_at hl 0 rfl) ?_
          refine va_get (D := G) (ci := 11) (v := .ref (tr 0)) (C := RX7) (T := TX7) (N := 9) hx hb hts hi11 hown hK.1 hP 0 rfl rfl 1 (by decide) hf16 (fun _ h9 => h9) rfl dX7_ticksUntilDefection_50 ?_
          refine c_wcVv (ws' := fl [[(aX, .inr (11, [.ref (na 0), .ref (tr 0), .ref (sn 0), .int hs, .ref hi, .ref sc, .int ep, .int fc, .ref ob]))], sWd cy na σ, sWd cy tr (tickS (tickN σ k))]) S9 (c_X5_tick l G cy tr (tickN σ k) hok) (cwV 0 hts gX7_ticksUntilDefection_X5_tick rfl rfl rfl (by decide +kernel) ⟨Nat.le_of_ble_eq_true rfl, Nat.le_of_ble_eq_true rfl⟩) PB.blind (va_recv hK.1 hP (ci := 9) (q0 := 18) rfl rfl) (PB.at hK (PpartC (Wc := [[(aX, .inr (11, [.ref (na 0), .ref (tr 0), .ref (sn 0), .int hs, .ref hi, .ref sc, .int ep, .int fc, .ref ob]))], sWd cy na σ, sWd cy tr (tickN σ k)]) (cs := [sWd cy tr (tickN σ k)]) hP [2] rfl)) hP hD hS (poss [[(aX, .inr (11, [.ref (na 0), .ref (tr 0), .ref (sn 0), .int hs, .ref hi, .ref sc, .int ep, .int fc, .ref ob]))], sWd cy na σ, sWd cy tr (tickN σ k)] [2]) (poss_F (cs := [sWd cy tr (tickN σ k)]) rfl) (poss_nd (by decide)) rfl (wsets_F (cs := [sWd cy tr (tickN σ k)]) (ns := [sWd cy tr (tickS (tickN σ k))]) rfl (by decide) rfl) rfl hl.1 rfl (Nat.le_of_ble_eq_true rfl) ⟨Nat.zero_le _, Nat.zero_le _⟩ dX7_ticksUntilDefection_53 (fun H locs hP hD hS => ?_)
          refine lv_aload_n hx hb dX7_ticksUntilDefection_56 rfl (lv_at hl 0 rfl) ?_
          refine va_get (D := G) (ci := 11) (v := .ref (tr 0)) (C := RX7) (T := TX7) (N := 9) hx hb hts hi11 hown hK.1 hP 0 rfl rfl 1 (by decide) hf16 (fun _ h9 => h9) rfl dX7_ticksUntilDefection_57 ?_
          refine va_get (D := G) (ci := 9) (v := .ref (tr 1)) (C := RX5) (T := TX5) (N := 4) hx hb hts hi9 hown hK.1 hP 18 rfl rfl 0 (by decide) hf77 (fun _ h9 => h9) rfl dX7_ticksUntilDefection_60 ?_
          refine va_get (D := G) (ci := 4) (v := .ref (tr 8)) (C := RX0) (T := TX0) (N := 5) hx hb hts hi4 hown hK.1 hP 19 rfl rfl 4 (by decide) hf180 (fun _ h9 => h9) rfl dX7_ticksUntilDefection_63 ?_
          refine lv_iload_n hx hb dX7_ticksUntilDefection_66 rfl (lv_at hl 1 rfl) ?_
          refine m_zald hx hb hK hP 23 (k := j) rfl rfl (by omega) (Nat.le_of_ble_eq_true rfl) dX7_ticksUntilDefection_67 ?_
          refine lv_if_ne (tgt := 73) hx hb dX7_ticksUntilDefection_68 (by decide) (fun c_9 => ?_) (fun c_9 => ?_)
          · refine lv_iinc (v := nI ((k + 1) + 1)) (lv' := [(2, .int (nI ((k + 1) + 1))), (0, .ref aX), (1, .int (nI j))]) hx hb dX7_ticksUntilDefection_73 hl (k := 2) rfl (m_inc _) (by decide) rfl (fun ls hl => ?_)
            refine lv_goto (tgt := 43) hx hb dX7_ticksUntilDefection_76 (by decide) ?_
            exact ih (k + 1) (by omega) ((atF_no (f := (fun k9 => mB (tickN σ k9) j)) (i := 0) (k := k + 1) c_9).symm.trans hR) H locs hP (m_Dsame hD (by rfl)) hS ls (lv_sub hl [1, 2, 0] rfl)
          · refine lv_iload_n hx hb dX7_ticksUntilDefection_71 rfl (lv_at hl 2 rfl) ?_
            have e9 : n9 = k + 1 := ((nI_eq (by omega) (by omega)).mp ((atF_yes (f := (fun k9 => mB (tickN σ k9) j)) (i := 0) (k := k + 1) (d := d) c_9).symm.trans hR)).symm
            exact wc_iret hx hb hr hlocks (by rw [e9]; exact hP) hS (congrArg nI e9.symm) dX7_ticksUntilDefection_72
    exact L_2 60 0 (by omega) hR0 _ _ hP (m_Dsame hD (by rfl)) hS ls (lv_sub hl [1, 2, 0] rfl)
  · exact absurd c_1 hm9

set_option maxRecDepth 100000 in
set_option maxHeartbeats 1000000 in
theorem t_ticksUntilDefection3 (l : Launch) (G : va_G) (cy : Nat → ClassId) (aX : Nat) (na tr sn : Nat → Nat) (hs : Int32) (hi sc : Nat) (ep fc : Int32) (ob : Nat) (σ τ : St) (j : Nat) (hl9 : l.stackTraces = false) (ho : Ok σ) (hj : j < nB σ) (hm9 : ¬ mB σ j = 0) (hR0 : atF (fun k9 => mB (tickN σ k9) j) 0 1 60 = -1) : TX l yX7_ticksUntilDefection wsX7_ticksUntilDefection { frames := 6, cells := 1, slots := 6, locals := 90 } G (PX G cy (fl [[(aX, .inr (11, [.ref (na 0), .ref (tr 0), .ref (sn 0), .int hs, .ref hi, .ref sc, .int ep, .int fc, .ref ob]))], sWd cy na σ, sWd cy tr τ])) [.ref aX, .int (nI j)] (fl [[(aX, .inr (11, [.ref (na 0), .ref (tr 0), .ref (sn 0), .int hs, .ref hi, .ref sc, .int ep, .int fc, .ref ob]))], sWd cy na σ, sWd cy tr τ]) (fl [[(aX, .inr (11, [.ref (na 0), .ref (tr 0), .ref (sn 0), .int hs, .ref hi, .ref sc, .int ep, .int fc, .ref ob]))], sWd cy na σ, sWd cy tr (tickN σ 60)]) xNSE := by
  refine TX.ofW (cc := cX7_ticksUntilDefection) (maxL := 3) (ret := (some .int)) (by decide) rfl (Nat.le_of_ble_eq_true rfl) ?_
  intro p e s m below meth c S9 htb hlocks hPB hD hS ls hl
  obtain ⟨hx, hb, hml, hown, hts⟩ := id S9
  obtain ⟨⟨⟨hP, hK⟩, hTZ⟩, hXS⟩ := hPB
  have hl : lv_has ls 3 [(0, .ref aX), (1, .int (nI j))] := hl
  have hi4 : ∀ w ∈ wsX00, w ∈ wsX7_ticksUntilDefection := by decide +kernel
  have hi9 : ∀ w ∈ wsX50, w ∈ wsX7_ticksUntilDefection := by decide +kernel
  have hi11 : ∀ w ∈ wsX70, w ∈ wsX7_ticksUntilDefection := by decide +kernel
  have hf12 := hts (.fieldLink RX7 12 "BathLeague" "now" "LBathLeague$State;") (by decide +kernel)
  have hf16 := hts (.fieldLink RX7 16 "BathLeague" "trial" "LBathLeague$State;") (by decide +kernel)
  have hf77 := hts (.fieldLink RX7 77 "BathLeague$State" "baths" "LBathLeague$Baths;") (by decide +kernel)
  have hf180 := hts (.fieldLink RX7 180 "BathLeague$Baths" "member" "[Z") (by decide +kernel)
  have hN0 := ho.1
  have hM0 := ho.2.1
  have hE0 := ho.2.2.1
  refine lv_aload_n hx hb dX7_ticksUntilDefection_0 rfl (lv_at hl 0 rfl) ?_
  refine lv_iload_n hx hb dX7_ticksUntilDefection_1 rfl (lv_at hl 1 rfl) ?_
  refine c_roVv S9 (c_X7_requireBath l G cy aX na tr sn hs hi sc ep fc ob σ j ho hj) (cwV 1 hts gX7_ticksUntilDefection_X7_requireBath rfl rfl rfl (by decide +kernel) ⟨Nat.le_of_ble_eq_true rfl, Nat.le_of_ble_eq_true rfl⟩) PB.blind (va_recv hK.1 hP (ci := 11) (q0 := 0) rfl rfl) (PB.at hK (PpartC (Wc := [[(aX, .inr (11, [.ref (na 0), .ref (tr 0), .ref (sn 0), .int hs, .ref hi, .ref sc, .int ep, .int fc, .ref ob]))], sWd cy na σ, sWd cy tr τ]) (cs := [[(aX, .inr (11, [.ref (na 0), .ref (tr 0), .ref (sn 0), .int hs, .ref hi, .ref sc, .int ep, .int fc, .ref ob]))], sWd cy na σ]) hP [0, 1] rfl)) rfl hl.1 rfl (Nat.le_of_ble_eq_true rfl) ⟨Nat.zero_le _, Nat.zero_le _⟩ dX7_ticksUntilDefection_2 ?_
  refine lv_aload_n hx hb dX7_ticksUntilDefection_5 rfl (lv_at hl 0 rfl) ?_
  refine va_get (D := G) (ci := 11) (v := .ref (na 0)) (C := RX7) (T := TX7) (N := 9) hx hb hts hi11 hown hK.1 hP 0 rfl rfl 0 (by decide) hf12 (fun _ h9 => h9) rfl dX7_ticksUntilDefection_6 ?_
  refine va_get (D := G) (ci := 9) (v := .ref (na 1)) (C := RX5) (T := TX5) (N := 4) hx hb hts hi9 hown hK.1 hP 1 rfl rfl 0 (by decide) hf77 (fun _ h9 => h9) rfl dX7_ticksUntilDefection_9 ?_
  refine va_get (D := G) (ci := 4) (v := .ref (na 8)) (C := RX0) (T := TX0) (N := 5) hx hb hts hi4 hown hK.1 hP 2 rfl rfl 4 (by decide) hf180 (fun _ h9 => h9) rfl dX7_ticksUntilDefection_12 ?_
  refine lv_iload_n hx hb dX7_ticksUntilDefection_15 rfl (lv_at hl 1 rfl) ?_
  refine m_zald hx hb hK hP 6 (k := j) rfl rfl (by omega) (Nat.le_of_ble_eq_true rfl) dX7_ticksUntilDefection_16 ?_
  refine lv_if_ne (tgt := 30) hx hb dX7_ticksUntilDefection_17 (by decide) (fun c_1 => ?_) (fun c_1 => ?_)
  · refine lv_aload_n hx hb dX7_ticksUntilDefection_30 rfl (lv_at hl 0 rfl) ?_
    refine va_get (D := G) (ci := 11) (v := .ref (tr 0)) (C := RX7) (T := TX7) (N := 9) hx hb hts hi11 hown hK.1 hP 0 rfl rfl 1 (by decide) hf16 (fun _ h9 => h9) rfl dX7_ticksUntilDefection_31 ?_
    refine lv_aload_n hx hb dX7_ticksUntilDefection_34 rfl (lv_at hl 0 rfl) ?_
    refine va_get (D := G) (ci := 11) (v := .ref (na 0)) (C := RX7) (T := TX7) (N := 9) hx hb hts hi11 hown hK.1 hP 0 rfl rfl 0 (by decide) hf12 (fun _ h9 => h9) rfl dX7_ticksUntilDefection_35 ?_
    refine c_wcVv (ws' := fl [[(aX, .inr (11, [.ref (na 0), .ref (tr 0), .ref (sn 0), .int hs, .ref hi, .ref sc, .int ep, .int fc, .ref ob]))], sWd cy na σ, sWd cy tr σ]) S9 (c_X5_copyFrom l G cy tr τ na σ ho) (cwV 1 hts gX7_ticksUntilDefection_X5_copyFrom rfl rfl rfl (by decide +kernel) ⟨Nat.le_of_ble_eq_true rfl, Nat.le_of_ble_eq_true rfl⟩) PB.blind (va_recv hK.1 hP (ci := 9) (q0 := 18) rfl rfl) (PB.at hK (PpartC (Wc := [[(aX, .inr (11, [.ref (na 0), .ref (tr 0), .ref (sn 0), .int hs, .ref hi, .ref sc, .int ep, .int fc, .ref ob]))], sWd cy na σ, sWd cy tr τ]) (cs := [sWd cy tr τ, sWd cy na σ]) hP [2, 1] rfl)) hP hD hS (poss [[(aX, .inr (11, [.ref (na 0), .ref (tr 0), .ref (sn 0), .int hs, .ref hi, .ref sc, .int ep, .int fc, .ref ob]))], sWd cy na σ, sWd cy tr τ] [2, 1]) (poss_F (cs := [sWd cy tr τ, sWd cy na σ]) rfl) (poss_nd (by decide)) rfl (wsets_F (cs := [sWd cy tr τ, sWd cy na σ]) (ns := [sWd cy tr σ, sWd cy na σ]) rfl (by decide) rfl) rfl hl.1 rfl (Nat.le_of_ble_eq_true rfl) ⟨Nat.zero_le _, Nat.zero_le _⟩ dX7_ticksUntilDefection_38 (fun H locs hP hD hS => ?_)
    refine lv_iconst (v := 1) hx hb dX7_ticksUntilDefection_41 (by decide) ?_
    refine lv_istore_n (lv' := [(2, .int 1), (0, .ref aX), (1, .int (nI j))]) hx hb dX7_ticksUntilDefection_42 rfl hl (by decide) rfl (fun ls hl => ?_)
    have L_2 : ∀ (d k : Nat), k + d = 60 → (atF (fun k9 => mB (tickN σ k9) j) 0 (k + 1) d = -1) → ∀ (H : Heap) (locs : List Loc), va_P G vwCl (fl [[(aX, .inr (11, [.ref (na 0), .ref (tr 0), .ref (sn 0), .int hs, .ref hi, .ref sc, .int ep, .int fc, .ref ob]))], sWd cy na σ, sWd cy tr (tickN σ k)]) H → va_D (wA (fl [[(aX, .inr (11, [.ref (na 0), .ref (tr 0), .ref (sn 0), .int hs, .ref hi, .ref sc, .int ep, .int fc, .ref ob]))], sWd cy na σ, sWd cy tr τ])) (fl [[(aX, .inr (11, [.ref (na 0), .ref (tr 0), .ref (sn 0), .int hs, .ref hi, .ref sc, .int ep, .int fc, .ref ob]))], sWd cy na σ, sWd cy tr (tickN σ k)]) → va_S (wA (fl [[(aX, .inr (11, [.ref (na 0), .ref (tr 0), .ref (sn 0), .int hs, .ref hi, .ref sc, .int ep, .int fc, .ref ob]))], sWd cy na σ, sWd cy tr τ])) s.heap H locs → ∀ ls : Array Slot, lv_has ls 3 [(0, .ref aX), (1, .int (nI j)), (2, .int (nI (k + 1)))] → W p l e ({ frames := 6, cells := 1, slots := 6, locals := 90 } : Room) s m ([.ref aX, .int (nI j)] : List Value).toArray below meth c H locs 0 0 (txZ below ([.ref aX, .int (nI j)] : List Value).toArray s G (fl [[(aX, .inr (11, [.ref (na 0), .ref (tr 0), .ref (sn 0), .int hs, .ref hi, .ref sc, .int ep, .int fc, .ref ob]))], sWd cy na σ, sWd cy tr τ]) (fl [[(aX, .inr (11, [.ref (na 0), .ref (tr 0), .ref (sn 0), .int hs, .ref hi, .ref sc, .int ep, .int fc, .ref ob]))], sWd cy na σ, sWd cy tr (tickN σ 60)]) xNSE) (F0 m 43 ls []) := by
      intro d
      induction d with
      | zero =>
        intro k hkk hR H locs hP hD hS ls hl
        have hok := ok_tickN ho k
        refine lv_iload_n hx hb dX7_ticksUntilDefection_43 rfl (lv_at hl 2 rfl) ?_
        refine lv_bipush (v := 60) hx hb dX7_ticksUntilDefection_44 (by decide) ?_
        refine lv_icmp_gt (tgt := 79) hx hb dX7_ticksUntilDefection_46 (by decide) (fun c_3 => ?_) (fun c_3 => ?_)
        · have k_4 : 60 < k + 1 := (m_ltN (a := 60) (b := k + 1) rfl rfl (by omega) (by omega)).mp c_3
          have k_4' : ¬ (k + 1 ≤ 60) := by omega
          have e9 : k = 60 := by omega
          rw [e9] at hP
          exact tx_newN (text := "the bath stays a member") S9 hl9 hXS exNSE (by decide +kernel) (by decide +kernel) (by decide +kernel) (fun w h => List.mem_cons_of_mem _ (List.mem_append_left _ (List.mem_append_left _ (List.mem_append_right _ h)))) htb hlocks hP hS hl.1 dX7_ticksUntilDefection_79 dX7_ticksUntilDefection_82 dX7_ticksUntilDefection_83 dX7_ticksUntilDefection_85 dX7_ticksUntilDefection_88 ⟨Nat.le_of_ble_eq_true rfl, Nat.le_of_ble_eq_true rfl, Nat.le_of_ble_eq_true rfl, Nat.le_of_ble_eq_true rfl⟩
        · have k_5 : ¬ (60 < k + 1) := fun z => c_3 ((m_ltN (a := 60) (b := k + 1) rfl rfl (by omega) (by omega)).mpr z)
          have k_5' : k + 1 ≤ 60 := by omega
          exfalso; omega
      | succ d ih =>
        intro k hkk hR H locs hP hD hS ls hl
        have hok := ok_tickN ho k
        refine lv_iload_n hx hb dX7_ticksUntilDefection_43 rfl (lv_at hl 2 rfl) ?_
        refine lv_bipush (v := 60) hx hb dX7_ticksUntilDefection_44 (by decide) ?_
        refine lv_icmp_gt (tgt := 79) hx hb dX7_ticksUntilDefection_46 (by decide) (fun c_6 => ?_) (fun c_6 => ?_)
        · have k_7 : 60 < k + 1 := (m_ltN (a := 60) (b := k + 1) rfl rfl (by omega) (by omega)).mp c_6
          have k_7' : ¬ (k + 1 ≤ 60) := by omega
          exfalso; omega
        · have k_8 : ¬ (60 < k + 1) := fun z => c_6 ((m_ltN (a := 60) (b := k + 1) rfl rfl (by omega) (by omega)).mpr z)
          have k_8' : k + 1 ≤ 60 := by omega
          refine lv_aload_n hx hb dX7_ticksUntilDefection_49 rfl (lv_at hl 0 rfl) ?_
          refine va_get (D := G) (ci := 11) (v := .ref (tr 0)) (C := RX7) (T := TX7) (N := 9) hx hb hts hi11 hown hK.1 hP 0 rfl rfl 1 (by decide) hf16 (fun _ h9 => h9) rfl dX7_ticksUntilDefection_50 ?_
          refine c_wcVv (ws' := fl [[(aX, .inr (11, [.ref (na 0), .ref (tr 0), .ref (sn 0), .int hs, .ref hi, .ref sc, .int ep, .int fc, .ref ob]))], sWd cy na σ, sWd cy tr (tickS (tickN σ k))]) S9 (c_X5_tick l G cy tr (tickN σ k) hok) (cwV 0 hts gX7_ticksUntilDefection_X5_tick rfl rfl rfl (by decide +kernel) ⟨Nat.le_of_ble_eq_true rfl, Nat.le_of_ble_eq_true rfl⟩) PB.blind (va_recv hK.1 hP (ci := 9) (q0 := 18) rfl rfl) (PB.at hK (PpartC (Wc := [[(aX, .inr (11, [.ref (na 0), .ref (tr 0), .ref (sn 0), .int hs, .ref hi, .ref sc, .int ep, .int fc, .ref ob]))], sWd cy na σ, sWd cy tr (tickN σ k)]) (cs := [sWd cy tr (tickN σ k)]) hP [2] rfl)) hP hD hS (poss [[(aX, .inr (11, [.ref (na 0), .ref (tr 0), .ref (sn 0), .int hs, .ref hi, .ref sc, .int ep, .int fc, .ref ob]))], sWd cy na σ, sWd cy tr (tickN σ k)] [2]) (poss_F (cs := [sWd cy tr (tickN σ k)]) rfl) (poss_nd (by decide)) rfl (wsets_F (cs := [sWd cy tr (tickN σ k)]) (ns := [sWd cy tr (tickS (tickN σ k))]) rfl (by decide) rfl) rfl hl.1 rfl (Nat.le_of_ble_eq_true rfl) ⟨Nat.zero_le _, Nat.zero_le _⟩ dX7_ticksUntilDefection_53 (fun H locs hP hD hS => ?_)
          refine lv_aload_n hx hb dX7_ticksUntilDefection_56 rfl (lv_at hl 0 rfl) ?_
          refine va_get (D := G) (ci := 11) (v := .ref (tr 0)) (C := RX7) (T := TX7) (N := 9) hx hb hts hi11 hown hK.1 hP 0 rfl rfl 1 (by decide) hf16 (fun _ h9 => h9) rfl dX7_ticksUntilDefection_57 ?_
          refine va_get (D := G) (ci := 9) (v := .ref (tr 1)) (C := RX5) (T := TX5) (N := 4) hx hb hts hi9 hown hK.1 hP 18 rfl rfl 0 (by decide) hf77 (fun _ h9 => h9) rfl dX7_ticksUntilDefection_60 ?_
          refine va_get (D := G) (ci := 4) (v := .ref (tr 8)) (C := RX0) (T := TX0) (N := 5) hx hb hts hi4 hown hK.1 hP 19 rfl rfl 4 (by decide) hf180 (fun _ h9 => h9) rfl dX7_ticksUntilDefection_63 ?_
          refine lv_iload_n hx hb dX7_ticksUntilDefection_66 rfl (lv_at hl 1 rfl) ?_
          refine m_zald hx hb hK hP 23 (k := j) rfl rfl (by omega) (Nat.le_of_ble_eq_true rfl) dX7_ticksUntilDefection_67 ?_
          refine lv_if_ne (tgt := 73) hx hb dX7_ticksUntilDefection_68 (by decide) (fun c_9 => ?_) (fun c_9 => ?_)
          · refine lv_iinc (v := nI ((k + 1) + 1)) (lv' := [(2, .int (nI ((k + 1) + 1))), (0, .ref aX), (1, .int (nI j))]) hx hb dX7_ticksUntilDefection_73 hl (k := 2) rfl (m_inc _) (by decide) rfl (fun ls hl => ?_)
            refine lv_goto (tgt := 43) hx hb dX7_ticksUntilDefection_76 (by decide) ?_
            exact ih (k + 1) (by omega) ((atF_no (f := (fun k9 => mB (tickN σ k9) j)) (i := 0) (k := k + 1) c_9).symm.trans hR) H locs hP (m_Dsame hD (by rfl)) hS ls (lv_sub hl [1, 2, 0] rfl)
          · exact absurd ((atF_yes (f := (fun k9 => mB (tickN σ k9) j)) (i := 0) (k := k + 1) (d := d) c_9).symm.trans hR) (m_nIne (by omega))
    exact L_2 60 0 (by omega) hR0 _ _ hP (m_Dsame hD (by rfl)) hS ls (lv_sub hl [1, 2, 0] rfl)
  · exact absurd c_1 hm9
