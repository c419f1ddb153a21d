/-! the reference's reader: what it says in its own words -/
theorem pk_at {f : Nat → Int32} {L : Nat} {x : Lx} (h : isD (pk f L x) = true) : f x.1 = pk f L x := by
  obtain ⟨a, b⟩ := isD_y h
  unfold pk
  rw [if_neg (by rw [a]; decide), if_pos b]
theorem sg_wr {f : Nat → Int32} {L : Nat} {x : Lx} {c : Int32} (hc : ¬ c = 0) (h : x.2 = true) : sg f L c x = x := by
  rw [sg_n (fun z => hc (by rw [← z, pk_wrong h]))]
  rw [← h]
theorem wd_wr {f : Nat → Int32} {L : Nat} : ∀ {l : List Int32} {x : Lx}, (∀ c ∈ l, ¬ c = 0) → x.2 = true → wd f L l x = x
  | [], _, _, _ => rfl
  | d :: l, x, hn, h => by
    show wd f L l (sg f L d x) = x
    rw [sg_wr (hn d List.mem_cons_self) h]
    exact wd_wr (fun c hc => hn c (List.mem_cons_of_mem _ hc)) h
theorem wd_app {f : Nat → Int32} {L : Nat} : ∀ {l m : List Int32} {x : Lx}, wd f L (l ++ m) x = wd f L m (wd f L l x)
  | [], _, _ => rfl
  | d :: l, m, x => wd_app (l := l) (m := m) (x := sg f L d x)
theorem wd_stop {f : Nat → Int32} {L i k : Nat} {x : Lx} (hi : i < 20) (h : (wd f L ((ltS i).take k) x).2 = true) : wd f L (ltS i) x = wd f L ((ltS i).take k) x := by
  conv => lhs; rw [← List.take_append_drop k (ltS i)]
  rw [wd_app, wd_wr (fun c hc => ltS_nz hi c (List.mem_of_mem_drop hc)) h]
theorem dgX_wr {f : Nat → Int32} {L : Nat} {x : Lx} (h : x.2 = true) : dgX f L x = x := by
  rw [dgX_n (by rw [pk_wrong h]; decide), ← h]
theorem nmX_wr {f : Nat → Int32} {L : Nat} {x : Lx} (h : x.2 = true) : nmX f L x = x := by
  unfold nmX
  rw [dgX_wr h, if_neg (by rw [pk_wrong h]; decide)]
theorem tlX_wr {f : Nat → Int32} {L : Nat} {x : Lx} (h : x.2 = true) : tlX f L x = x := by
  unfold tlX
  rw [if_neg (by rw [pk_wrong h]; decide), if_neg (by rw [pk_wrong h]; decide), sg_wr (by decide) h]
theorem psX_wr {f : Nat → Int32} {L : Nat} {x : Lx} (h : x.2 = true) : psX f L x = x := by
  unfold psX
  rw [if_neg (by rw [pk_wrong h]; decide), sg_wr (by decide) h]
/-- the sign behind the next one -/
def pk1 (f : Nat → Int32) (L : Nat) (x : Lx) : Int32 := if x.1 + 1 < L then f (x.1 + 1) else 0
theorem pk1_sg {f : Nat → Int32} {L : Nat} {x : Lx} {c : Int32} (h : pk f L x = c) : pk f L (sg f L c x) = pk1 f L x := by
  rw [sg_y h]
  unfold pk pk1
  dsimp only
  rw [if_neg Bool.false_ne_true]
theorem pk1_c {f : Nat → Int32} {L : Nat} {x : Lx} (hf : czN 60 f) (hL : L ≤ 60) : vp_nar .char (pk1 f L x) = pk1 f L x := by
  unfold pk1
  split
  · exact hf _ (by omega)
  · rfl
/-- a letter out of the literal i -/
def ltX (i : Nat) (f : Nat → Int32) (L : Nat) (x : Lx) : Lx := if x.2 = true then (x.1, true) else if ixS i (pk f L x) < 0 then (x.1, true) else (x.1 + 1, x.2)
def ltV (i : Nat) (f : Nat → Int32) (L : Nat) (x : Lx) : Int32 := if x.2 = true then -1 else ixS i (pk f L x)
theorem ltX_le {i : Nat} {f : Nat → Int32} {L : Nat} {x : Lx} (h : x.1 ≤ L) (h0 : ixS i 0 < 0) : (ltX i f L x).1 ≤ L := by
  unfold ltX
  split
  · exact h
  · split
    · exact h
    · next z =>
      by_cases y : pk f L x = 0
      · rw [y] at z; exact absurd h0 z
      · exact (pk_y y rfl).2.1
/-- the letter for the command that begins here -/
def kdM (f : Nat → Int32) (L : Nat) (x : Lx) : Int32 := if pk f L x = 116 then (if pk1 f L x = 97 then 97 else 107) else if pk f L x = 112 then (if pk1 f L x = 111 then 111 else 112) else pk f L x
theorem kdM_c {f : Nat → Int32} {L : Nat} {x : Lx} (hf : czN 60 f) (hL : L ≤ 60) : vp_nar .char (kdM f L x) = kdM f L x := by
  unfold kdM
  split
  · split <;> rfl
  · split
    · split <;> rfl
    · exact pk_c hf hL
/-- signs as they are typed -/
def sgOK (c : Int32) : Prop := ¬ c < 0 ∧ ¬ 126 < c
theorem pk_ok {f : Nat → Int32} {L : Nat} {x : Lx} (hf : ∀ j, j < L → sgOK (f j)) : sgOK (pk f L x) := by
  unfold pk
  split
  · exact ⟨by decide, by decide⟩
  · split
    · next h => exact hf _ h
    · exact ⟨by decide, by decide⟩
theorem sgOK_b {c : Int32} (h : sgOK c) : c.toInt8.toInt32 = c := by
  obtain ⟨j, hj, e⟩ := nI_of h.1
  have h2 := h.2
  subst e
  rw [Int32.lt_iff_toInt_lt, nI_toInt hj, show (126 : Int32).toInt = 126 from by decide] at h2
  have k : ∀ j : Nat, j < 127 → (nI j).toInt8.toInt32 = nI j := by decide
  exact k j (by omega)
set_option maxRecDepth 100000 in
set_option maxHeartbeats 1000000 in
theorem c_J1_canEncode_9a6ad (l : Launch) (G : va_G) (cy : Nat → ClassId) (c : Int32) (hco : sgOK c) : RO l yJ1_canEncode_9a6ad wsJ1_canEncode_9a6ad { frames := 0, cells := 0, slots := 0, locals := 0 } (PB G cy []) [.int c] (some (.int 1)) := by
  refine RO.ofW (cc := cJ1_canEncode_9a6ad) (maxL := 1) (ret := (some .boolean)) (by decide) rfl (Nat.le_of_ble_eq_true rfl) ?_
  intro p e s m below meth cq S9 hr hlocks hPB ls hl
  obtain ⟨hxq, hb, hml, hown, hts⟩ := id S9
  obtain ⟨hP, hK⟩ := hPB
  have hl : lv_has ls 1 [(0, .int c)] := hl
  refine lv_iload_n hxq hb dJ1_canEncode_9a6ad_0 rfl (lv_at hl 0 rfl) ?_
  refine lv_if_lt (tgt := 15) hxq hb dJ1_canEncode_9a6ad_1 (by decide) (fun c_1 => ?_) (fun c_1 => ?_)
  · exact absurd c_1 hco.1
  · have c_1' : 0 ≤ c := Int32.not_lt.mp c_1
    refine lv_iload_n hxq hb dJ1_canEncode_9a6ad_4 rfl (lv_at hl 0 rfl) ?_
    refine lv_sipush (v := 255) hxq hb dJ1_canEncode_9a6ad_5 (by decide) ?_
    refine lv_icmp_gt (tgt := 15) hxq hb dJ1_canEncode_9a6ad_8 (by decide) (fun c_2 => ?_) (fun c_2 => ?_)
    · exact absurd (show 126 < c from by rw [Int32.lt_iff_toInt_lt] at c_2 ⊢; exact Int.lt_trans (by decide) c_2) hco.2
    · have c_2' : c ≤ 255 := Int32.not_lt.mp c_2
      refine lv_iconst (v := 1) hxq hb dJ1_canEncode_9a6ad_11 (by decide) ?_
      refine lv_goto (tgt := 16) hxq hb dJ1_canEncode_9a6ad_12 (by decide) ?_
      exact ro_zret hxq hb hr hlocks (by first | rfl | (split <;> rfl)) rfl dJ1_canEncode_9a6ad_16

set_option maxRecDepth 100000 in
set_option maxHeartbeats 1000000 in
theorem c_J1_indexOfChar_4cfef (l : Launch) (G : va_G) (cy : Nat → ClassId) (kS vS : Nat → Nat) (i : Nat) (c : Int32) (hi : i < 20) (hco : sgOK c) : RO l yJ1_indexOfChar_4cfef wsJ1_indexOfChar_4cfef { frames := 0, cells := 0, slots := 0, locals := 0 } (PK G cy kS vS) [.ref (vS i), .int c, .int 0, .int (nI (lnS i))] (some (.int (ixS i c))) := by
  refine RO.ofW (cc := cJ1_indexOfChar_4cfef) (maxL := 6) (ret := (some .int)) (by decide) rfl (Nat.le_of_ble_eq_true rfl) ?_
  intro p e s m below meth cq S9 hr hlocks hPB ls hl
  obtain ⟨hxq, hb, hml, hown, hts⟩ := id S9
  obtain ⟨hK, hSK⟩ := hPB
  have hl : lv_has ls 6 [(0, .ref (vS i)), (1, .int c), (2, .int 0), (3, .int (nI (lnS i)))] := hl
  have hS : va_S (fun _ => False) s.heap s.heap [] := va_S.rf
  have hP : va_P G vwCl [] s.heap := fun k q h => by simp at h
  refine lv_iload_n hxq hb dJ1_indexOfChar_4cfef_0 rfl (lv_at hl 1 rfl) ?_
  refine lv_i2b hxq hb dJ1_indexOfChar_4cfef_1 (sgOK_b hco) ?_
  refine lv_istore (lv' := [(4, .int c), (0, .ref (vS i)), (1, .int c), (2, .int 0), (3, .int (nI (lnS i)))]) hxq hb dJ1_indexOfChar_4cfef_2 hl (by decide) rfl (fun ls hl => ?_)
  refine lv_iload_n hxq hb dJ1_indexOfChar_4cfef_4 rfl (lv_at hl 3 rfl) ?_
  refine lv_istore (lv' := [(5, .int 0), (4, .int c), (0, .ref (vS i)), (1, .int c), (2, .int 0), (3, .int (nI (lnS i)))]) hxq hb dJ1_indexOfChar_4cfef_5 hl (by decide) rfl (fun ls hl => ?_)
  have L_1 : ∀ (d k : Nat), k + d = (lnS i) → (atF (chS i) c k d = ixS i c) → ∀ ls : Array Slot, lv_has ls 6 [(0, .ref (vS i)), (1, .int c), (2, .int 0), (3, .int (nI (lnS i))), (4, .int c), (5, .int (nI k))] → W p l e ({ frames := 0, cells := 0, slots := 0, locals := 0 } : Room) s m ([.ref (vS i), .int c, .int 0, .int (nI (lnS i))] : List Value).toArray below meth cq s.heap [] 0 0 (roZ below ([.ref (vS i), .int c, .int 0, .int (nI (lnS i))] : List Value).toArray s (some (.int (ixS i c)))) (F0 m 7 ls []) := by
    intro d
    induction d with
    | zero =>
      intro k hkk hR ls hl
      have hl9 : lnS i < 10 := lnS_lt hi
      refine lv_iload hxq hb dJ1_indexOfChar_4cfef_7 (lv_at hl 5 rfl) ?_
      refine lv_iload_n hxq hb dJ1_indexOfChar_4cfef_9 rfl (lv_at hl 3 rfl) ?_
      refine lv_icmp_ge (tgt := 31) hxq hb dJ1_indexOfChar_4cfef_10 (by decide) (fun c_2 => ?_) (fun c_2 => ?_)
      · have k_3 : (lnS i) ≤ k := (m_leN (a := (lnS i)) (b := k) rfl rfl (by omega) (by omega)).mp c_2
        have k_3' : ¬ (k < (lnS i)) := by omega
        refine lv_iconst (v := (-1)) hxq hb dJ1_indexOfChar_4cfef_31 (by decide) ?_
        exact ro_iret hxq hb hr hlocks hR dJ1_indexOfChar_4cfef_32
      · have k_4 : ¬ ((lnS i) ≤ k) := fun z => c_2 ((m_leN (a := (lnS i)) (b := k) rfl rfl (by omega) (by omega)).mpr z)
        have k_4' : k < (lnS i) := by omega
        exfalso; omega
    | succ d ih =>
      intro k hkk hR ls hl
      have hl9 : lnS i < 10 := lnS_lt hi
      have hk9 : k < lenS.getD i 0 := (show k < lnS i by omega)
      refine lv_iload hxq hb dJ1_indexOfChar_4cfef_7 (lv_at hl 5 rfl) ?_
      refine lv_iload_n hxq hb dJ1_indexOfChar_4cfef_9 rfl (lv_at hl 3 rfl) ?_
      refine lv_icmp_ge (tgt := 31) hxq hb dJ1_indexOfChar_4cfef_10 (by decide) (fun c_5 => ?_) (fun c_5 => ?_)
      · have k_6 : (lnS i) ≤ k := (m_leN (a := (lnS i)) (b := k) rfl rfl (by omega) (by omega)).mp c_5
        have k_6' : ¬ (k < (lnS i)) := by omega
        exfalso; omega
      · have k_7 : ¬ ((lnS i) ≤ k) := fun z => c_5 ((m_leN (a := (lnS i)) (b := k) rfl rfl (by omega) (by omega)).mpr z)
        have k_7' : k < (lnS i) := by omega
        refine lv_aload_n hxq hb dJ1_indexOfChar_4cfef_13 rfl (lv_at hl 0 rfl) ?_
        refine lv_iload hxq hb dJ1_indexOfChar_4cfef_14 (lv_at hl 5 rfl) ?_
        refine va_tb hxq hb (hSK.1.1 i hi).2.2.2 hS (i := nI k) (v := .int (chS i k)) (vp_in_nI (show k < lenS.getD i 0 from by assumption) (Nat.lt_of_lt_of_le (lnS_lt hi) (by decide))) (by rw [nI_clamp (by omega)]; rfl) dJ1_indexOfChar_4cfef_16 ?_
        refine lv_iload hxq hb dJ1_indexOfChar_4cfef_17 (lv_at hl 4 rfl) ?_
        refine lv_icmp_ne (tgt := 25) hxq hb dJ1_indexOfChar_4cfef_19 (by decide) (fun c_8 => ?_) (fun c_8 => ?_)
        · refine lv_iinc (v := nI (k + 1)) (lv' := [(5, .int (nI (k + 1))), (0, .ref (vS i)), (1, .int c), (2, .int 0), (3, .int (nI (lnS i))), (4, .int c)]) hxq hb dJ1_indexOfChar_4cfef_25 hl (k := 5) rfl (m_inc _) (by decide) rfl (fun ls hl => ?_)
          refine lv_goto (tgt := 7) hxq hb dJ1_indexOfChar_4cfef_28 (by decide) ?_
          exact ih (k + 1) (by omega) ((atF_no (f := chS i) c_8).symm.trans hR) ls (lv_sub hl [1, 2, 3, 4, 5, 0] rfl)
        · refine lv_iload hxq hb dJ1_indexOfChar_4cfef_22 (lv_at hl 5 rfl) ?_
          exact ro_iret hxq hb hr hlocks ((atF_yes (f := chS i) (d := d) c_8).symm.trans hR) dJ1_indexOfChar_4cfef_24
  exact L_1 (lnS i) 0 (by omega) rfl ls (lv_sub hl [2, 3, 4, 5, 1, 0] rfl)

set_option maxRecDepth 100000 in
set_option maxHeartbeats 1000000 in
theorem c_J1_indexOf_4cfef (l : Launch) (G : va_G) (cy : Nat → ClassId) (kS vS : Nat → Nat) (i : Nat) (c : Int32) (hi : i < 20) (hco : sgOK c) (hl0 : 0 < lnS i) : RO l yJ1_indexOf_4cfef wsJ1_indexOf_4cfef { frames := 1, cells := 0, slots := 0, locals := 25 } (PK G cy kS vS) [.ref (vS i), .int c, .int 0, .int (nI (lnS i))] (some (.int (ixS i c))) := by
  refine RO.ofW (cc := cJ1_indexOf_4cfef) (maxL := 4) (ret := (some .int)) (by decide) rfl (Nat.le_of_ble_eq_true rfl) ?_
  intro p e s m below meth cq S9 hr hlocks hPB ls hl
  obtain ⟨hxq, hb, hml, hown, hts⟩ := id S9
  obtain ⟨hK, hSK⟩ := hPB
  have hl : lv_has ls 4 [(0, .ref (vS i)), (1, .int c), (2, .int 0), (3, .int (nI (lnS i)))] := hl
  have hmm1 := hts (.methodLink RJ1 38 Lib.Math.min.name) (by decide +kernel)
  have hmm2 := hts (.static Lib.Math.min.name) (by decide +kernel)
  have hmm3 := hts (.initialized "java/lang/Math") (by decide +kernel)
  have hmm4 := hts (.code Lib.Math.min.name Lib.Math.min.code 2 (some .int)) (by decide +kernel)
  have hmx1 := hts (.methodLink RJ1 92 Lib.Math.max.name) (by decide +kernel)
  have hmx2 := hts (.static Lib.Math.max.name) (by decide +kernel)
  have hmx3 := hts (.initialized "java/lang/Math") (by decide +kernel)
  have hmx4 := hts (.code Lib.Math.max.name Lib.Math.max.code 2 (some .int)) (by decide +kernel)
  have hS : va_S (fun _ => False) s.heap s.heap [] := va_S.rf
  have hP : va_P G vwCl [] s.heap := fun k q h => by simp at h
  have hl9 : lnS i < 10 := lnS_lt hi
  refine lv_iload_n hxq hb dJ1_indexOf_4cfef_0 rfl (lv_at hl 1 rfl) ?_
  refine c_roSi S9 (c_J1_canEncode_9a6ad l G cy c hco) (va_cwS 1 hts gJ1_indexOf_4cfef_J1_canEncode_9a6ad rfl rfl rfl (by decide +kernel) ⟨Nat.le_of_ble_eq_true rfl, Nat.le_of_ble_eq_true rfl⟩) PB.blind (PB.at hK (m_Ppart hP [] rfl)) rfl hl.1 rfl (Nat.le_of_ble_eq_true rfl) ⟨Nat.zero_le _, Nat.zero_le _⟩ dJ1_indexOf_4cfef_1 ?_
  refine lv_if_ne (tgt := 9) hxq hb dJ1_indexOf_4cfef_4 (by decide) (fun c_1 => ?_) (fun c_1 => ?_)
  · refine lv_iload_n hxq hb dJ1_indexOf_4cfef_9 rfl (lv_at hl 2 rfl) ?_
    refine lv_iconst (v := 0) hxq hb dJ1_indexOf_4cfef_10 (by decide) ?_
    refine va_mmax hxq hb (hml.trans hl.1.symm) hown hmx1 hmx2 hmx3 hmx4 (by decide) (Nat.le_of_ble_eq_true rfl) (Nat.zero_le _) (Nat.zero_le _) dJ1_indexOf_4cfef_11 ?_
    refine lv_t0 (show (if 0 < 0 then 0 else 0) = 0 from by decide) ?_
    refine lv_istore_n (lv' := [(2, .int 0), (0, .ref (vS i)), (1, .int c), (3, .int (nI (lnS i)))]) hxq hb dJ1_indexOf_4cfef_14 rfl hl (by decide) rfl (fun ls hl => ?_)
    refine lv_iload_n hxq hb dJ1_indexOf_4cfef_15 rfl (lv_at hl 3 rfl) ?_
    refine lv_aload_n hxq hb dJ1_indexOf_4cfef_16 rfl (lv_at hl 1 rfl) ?_
    refine va_tlen hxq hb (hSK.1.1 i hi).2.2.2 hS (v := nI (lnS i)) rfl dJ1_indexOf_4cfef_17 ?_
    refine va_mmin hxq hb (hml.trans hl.1.symm) hown hmm1 hmm2 hmm3 hmm4 (by decide) (Nat.le_of_ble_eq_true rfl) (Nat.zero_le _) (Nat.zero_le _) dJ1_indexOf_4cfef_18 ?_
    refine lv_t0 (show (if nI (lnS i) < nI (lnS i) then nI (lnS i) else nI (lnS i)) = nI (lnS i) from ite_self _) ?_
    refine lv_istore_n (lv' := [(3, .int (nI (lnS i))), (2, .int 0), (0, .ref (vS i)), (1, .int c)]) hxq hb dJ1_indexOf_4cfef_21 rfl hl (by decide) rfl (fun ls hl => ?_)
    refine lv_iload_n hxq hb dJ1_indexOf_4cfef_22 rfl (lv_at hl 1 rfl) ?_
    refine lv_iload_n hxq hb dJ1_indexOf_4cfef_23 rfl (lv_at hl 0 rfl) ?_
    refine lv_icmp_lt (tgt := 29) hxq hb dJ1_indexOf_4cfef_24 (by decide) (fun c_2 => ?_) (fun c_2 => ?_)
    · have k_3 : 0 < (lnS i) := (m_ltN (a := 0) (b := (lnS i)) rfl rfl (by omega) (by omega)).mp c_2
      have k_3' : ¬ ((lnS i) ≤ 0) := by omega
      refine lv_aload_n hxq hb dJ1_indexOf_4cfef_29 rfl (lv_at hl 2 rfl) ?_
      refine lv_iload_n hxq hb dJ1_indexOf_4cfef_30 rfl (lv_at hl 3 rfl) ?_
      refine lv_iload_n hxq hb dJ1_indexOf_4cfef_31 rfl (lv_at hl 1 rfl) ?_
      refine lv_iload_n hxq hb dJ1_indexOf_4cfef_32 rfl (lv_at hl 0 rfl) ?_
      refine c_roSi S9 (c_J1_indexOfChar_4cfef l G cy kS vS i c hi hco) (va_cwS 4 hts gJ1_indexOf_4cfef_J1_indexOfChar_4cfef rfl rfl rfl (by decide +kernel) ⟨Nat.le_of_ble_eq_true rfl, Nat.le_of_ble_eq_true rfl⟩) PK.blind (PK.at hK hSK hS) rfl hl.1 rfl (Nat.le_of_ble_eq_true rfl) ⟨Nat.zero_le _, Nat.zero_le _⟩ dJ1_indexOf_4cfef_33 ?_
      exact ro_iret hxq hb hr hlocks rfl dJ1_indexOf_4cfef_36
    · have k_4 : ¬ (0 < (lnS i)) := fun z => c_2 ((m_ltN (a := 0) (b := (lnS i)) rfl rfl (by omega) (by omega)).mpr z)
      have k_4' : (lnS i) ≤ 0 := by omega
      exfalso; omega
  · exact absurd c_1 (by decide)

set_option maxRecDepth 100000 in
set_option maxHeartbeats 1000000 in
theorem c_J0_indexOf_7cf53 (l : Launch) (G : va_G) (cy : Nat → ClassId) (kS vS : Nat → Nat) (i : Nat) (c : Int32) (hi : i < 20) (hco : sgOK c) (hl0 : 0 < lnS i) : RO l yJ0_indexOf_7cf53 wsJ0_indexOf_7cf53 { frames := 2, cells := 0, slots := 0, locals := 48 } (PK G cy kS vS) [.ref (kS i), .int c, .int 0] (some (.int (ixS i c))) := by
  refine RO.ofW (cc := cJ0_indexOf_7cf53) (maxL := 3) (ret := (some .int)) (by decide) rfl (Nat.le_of_ble_eq_true rfl) ?_
  intro p e s m below meth cq S9 hr hlocks hPB ls hl
  obtain ⟨hxq, hb, hml, hown, hts⟩ := id S9
  obtain ⟨hK, hSK⟩ := hPB
  have hl : lv_has ls 3 [(0, .ref (kS i)), (1, .int c), (2, .int 0)] := hl
  have hS : va_S (fun _ => False) s.heap s.heap [] := va_S.rf
  have hP : va_P G vwCl [] s.heap := fun k q h => by simp at h
  have hl9 : lnS i < 10 := lnS_lt hi
  refine lv_aload_n hxq hb dJ0_indexOf_7cf53_0 rfl (lv_at hl 0 rfl) ?_
  refine c_roVi S9 (c_J0_isLatin1_aae02 l G cy kS vS i hi) (cwV 0 hts gJ0_indexOf_7cf53_J0_isLatin1_aae02 rfl rfl rfl (by decide +kernel) ⟨Nat.le_of_ble_eq_true rfl, Nat.le_of_ble_eq_true rfl⟩) PK.blind (litS.recv hSK.1 (by first | assumption | decide) hS) (PK.at hK hSK hS) rfl hl.1 rfl (Nat.le_of_ble_eq_true rfl) ⟨Nat.zero_le _, Nat.zero_le _⟩ dJ0_indexOf_7cf53_1 ?_
  refine lv_if_eq (tgt := 23) hxq hb dJ0_indexOf_7cf53_4 (by decide) (fun c_1 => ?_) (fun c_1 => ?_)
  · exact absurd c_1 (by decide)
  · refine lv_aload_n hxq hb dJ0_indexOf_7cf53_7 rfl (lv_at hl 0 rfl) ?_
    refine vk_getf hxq hb (hSK.1.1 i hi).2.2.1 hS hown (hts (.fieldLink RJ0 9 "java/lang/String" "value" "[B") (by decide +kernel)) (fun _ h9 => h9) dJ0_indexOf_7cf53_8 ?_
    refine lv_iload_n hxq hb dJ0_indexOf_7cf53_11 rfl (lv_at hl 1 rfl) ?_
    refine lv_iload_n hxq hb dJ0_indexOf_7cf53_12 rfl (lv_at hl 2 rfl) ?_
    refine lv_aload_n hxq hb dJ0_indexOf_7cf53_13 rfl (lv_at hl 0 rfl) ?_
    refine c_roVi S9 (c_J0_length_8abf5 l G cy kS vS i hi) (cwV 0 hts gJ0_indexOf_7cf53_J0_length_8abf5 rfl rfl rfl (by decide +kernel) ⟨Nat.le_of_ble_eq_true rfl, Nat.le_of_ble_eq_true rfl⟩) PK.blind (litS.recv hSK.1 (by first | assumption | decide) hS) (PK.at hK hSK hS) rfl hl.1 rfl (Nat.le_of_ble_eq_true rfl) ⟨Nat.zero_le _, Nat.zero_le _⟩ dJ0_indexOf_7cf53_14 ?_
    refine c_roSi S9 (c_J1_indexOf_4cfef l G cy kS vS i c hi hco hl0) (va_cwS 4 hts gJ0_indexOf_7cf53_J1_indexOf_4cfef rfl rfl rfl (by decide +kernel) ⟨Nat.le_of_ble_eq_true rfl, Nat.le_of_ble_eq_true rfl⟩) PK.blind (PK.at hK hSK hS) rfl hl.1 rfl (Nat.le_of_ble_eq_true rfl) ⟨Nat.zero_le _, Nat.zero_le _⟩ dJ0_indexOf_7cf53_17 ?_
    refine lv_goto (tgt := 36) hxq hb dJ0_indexOf_7cf53_20 (by decide) ?_
    exact ro_iret hxq hb hr hlocks rfl dJ0_indexOf_7cf53_36

set_option maxRecDepth 100000 in
set_option maxHeartbeats 1000000 in
theorem c_J0_indexOf_0f7a4 (l : Launch) (G : va_G) (cy : Nat → ClassId) (kS vS : Nat → Nat) (i : Nat) (c : Int32) (hi : i < 20) (hco : sgOK c) (hl0 : 0 < lnS i) : RO l yJ0_indexOf_0f7a4 wsJ0_indexOf_0f7a4 { frames := 3, cells := 0, slots := 0, locals := 70 } (PK G cy kS vS) [.ref (kS i), .int c] (some (.int (ixS i c))) := by
  refine RO.ofW (cc := cJ0_indexOf_0f7a4) (maxL := 2) (ret := (some .int)) (by decide) rfl (Nat.le_of_ble_eq_true rfl) ?_
  intro p e s m below meth cq S9 hr hlocks hPB ls hl
  obtain ⟨hxq, hb, hml, hown, hts⟩ := id S9
  obtain ⟨hK, hSK⟩ := hPB
  have hl : lv_has ls 2 [(0, .ref (kS i)), (1, .int c)] := hl
  have hS : va_S (fun _ => False) s.heap s.heap [] := va_S.rf
  have hP : va_P G vwCl [] s.heap := fun k q h => by simp at h
  have hl9 : lnS i < 10 := lnS_lt hi
  refine lv_aload_n hxq hb dJ0_indexOf_0f7a4_0 rfl (lv_at hl 0 rfl) ?_
  refine lv_iload_n hxq hb dJ0_indexOf_0f7a4_1 rfl (lv_at hl 1 rfl) ?_
  refine lv_iconst (v := 0) hxq hb dJ0_indexOf_0f7a4_2 (by decide) ?_
  refine c_roVi S9 (c_J0_indexOf_7cf53 l G cy kS vS i c hi hco hl0) (cwV 2 hts gJ0_indexOf_0f7a4_J0_indexOf_7cf53 rfl rfl rfl (by decide +kernel) ⟨Nat.le_of_ble_eq_true rfl, Nat.le_of_ble_eq_true rfl⟩) PK.blind (litS.recv hSK.1 (by first | assumption | decide) hS) (PK.at hK hSK hS) rfl hl.1 rfl (Nat.le_of_ble_eq_true rfl) ⟨Nat.zero_le _, Nat.zero_le _⟩ dJ0_indexOf_0f7a4_3 ?_
  exact ro_iret hxq hb hr hlocks rfl dJ0_indexOf_0f7a4_6

set_option maxRecDepth 100000 in
set_option maxHeartbeats 1000000 in
theorem c_X8_behind0 (l : Launch) (G : va_G) (cy : Nat → ClassId) (am aS aBf aAs aSv aPa aOu aTx aCo K OM LN CM : Nat) (iS th ea fa : Int32) (x : Lx) (f : Nat → Int32) (hL : LN ≤ 60) (hx : x.1 ≤ LN) (hcz : czN 60 f) (hok : ∀ j, j < LN → sgOK (f j)) (hw0 : x.2 = false) : RO l yX8_behind wsX8_behind { frames := 0, cells := 0, slots := 0, locals := 0 } (PB G cy [(am, .inr (12, [.ref aS, .ref aBf, .ref aAs, .ref aSv, .int iS, .ref aPa, .int (nI K), .int th, .ref aOu, .int (nI OM), .ref aTx, .int (nI LN), .int (nI x.1), .int (bI x.2), .int ea, .int fa, .ref aCo, .int (nI CM)])), (aTx, .inl (cy 1, 60, .inl f))]) [.ref am, .int 0] (some (.int (pk f LN x))) := by
  refine RO.ofW (cc := cX8_behind) (maxL := 2) (ret := (some .char)) (by decide) rfl (Nat.le_of_ble_eq_true rfl) ?_
  intro p e s m below meth cq S9 hr hlocks hPB ls hl
  obtain ⟨hxq, hb, hml, hown, hts⟩ := id S9
  obtain ⟨hP, hK⟩ := hPB
  have hl : lv_has ls 2 [(0, .ref am), (1, .int 0)] := hl
  have hi12 : ∀ w ∈ wsX80, w ∈ wsX8_behind := by decide +kernel
  have hf29 := hts (.fieldLink RX8 29 "BathLeagueModel" "text" "[C") (by decide +kernel)
  have hf190 := hts (.fieldLink RX8 190 "BathLeagueModel" "length" "I") (by decide +kernel)
  have hf193 := hts (.fieldLink RX8 193 "BathLeagueModel" "at" "I") (by decide +kernel)
  refine lv_aload_n hxq hb dX8_behind_0 rfl (lv_at hl 0 rfl) ?_
  refine va_get (D := G) (ci := 12) (v := .int (nI x.1)) (C := RX8) (T := TX8) (N := 18) hxq hb hts hi12 hown hK.1 hP 0 rfl rfl 12 (by decide) hf193 (fun _ h9 => h9) rfl dX8_behind_1 ?_
  refine lv_iload_n hxq hb dX8_behind_4 rfl (lv_at hl 1 rfl) ?_
  refine lv_iadd hxq hb dX8_behind_5 ?_
  refine lv_aload_n hxq hb dX8_behind_6 rfl (lv_at hl 0 rfl) ?_
  refine va_get (D := G) (ci := 12) (v := .int (nI LN)) (C := RX8) (T := TX8) (N := 18) hxq hb hts hi12 hown hK.1 hP 0 rfl rfl 11 (by decide) hf190 (fun _ h9 => h9) rfl dX8_behind_7 ?_
  refine lv_icmp_ge (tgt := 27) hxq hb dX8_behind_10 (by decide) (fun c_1 => ?_) (fun c_1 => ?_)
  · have k_2 : LN ≤ x.1 + 0 := (m_leN (a := LN) (b := x.1 + 0) rfl (m_add rfl rfl) (by omega) (by omega)).mp c_1
    have k_2' : ¬ (x.1 + 0 < LN) := by omega
    refine lv_iconst (v := 0) hxq hb dX8_behind_27 (by decide) ?_
    exact ro_zret hxq hb hr hlocks (congrArg Value.int (pk_c hcz hL)) (by unfold pk; simp [hw0, k_2', k_2]; intro z9; exact absurd z9 (by omega)) dX8_behind_28
  · have k_3 : ¬ (LN ≤ x.1 + 0) := fun z => c_1 ((m_leN (a := LN) (b := x.1 + 0) rfl (m_add rfl rfl) (by omega) (by omega)).mpr z)
    have k_3' : x.1 + 0 < LN := by omega
    refine lv_aload_n hxq hb dX8_behind_13 rfl (lv_at hl 0 rfl) ?_
    refine va_get (D := G) (ci := 12) (v := .ref aTx) (C := RX8) (T := TX8) (N := 18) hxq hb hts hi12 hown hK.1 hP 0 rfl rfl 10 (by decide) hf29 (fun _ h9 => h9) rfl dX8_behind_14 ?_
    refine lv_aload_n hxq hb dX8_behind_17 rfl (lv_at hl 0 rfl) ?_
    refine va_get (D := G) (ci := 12) (v := .int (nI x.1)) (C := RX8) (T := TX8) (N := 18) hxq hb hts hi12 hown hK.1 hP 0 rfl rfl 12 (by decide) hf193 (fun _ h9 => h9) rfl dX8_behind_18 ?_
    refine lv_iload_n hxq hb dX8_behind_21 rfl (lv_at hl 1 rfl) ?_
    refine lv_iadd hxq hb dX8_behind_22 ?_
    refine m_cald hxq hb hK hP 1 (k := x.1 + 0) rfl (m_add rfl rfl) (by omega) (Nat.le_of_ble_eq_true rfl) dX8_behind_23 ?_
    refine lv_goto (tgt := 28) hxq hb dX8_behind_24 (by decide) ?_
    exact ro_zret hxq hb hr hlocks (congrArg Value.int (pk_c hcz hL)) (by unfold pk; simp [hw0, k_3', k_3]; intro z9; exact absurd z9 (by omega)) dX8_behind_28

set_option maxRecDepth 100000 in
set_option maxHeartbeats 1000000 in
theorem c_X8_behind1 (l : Launch) (G : va_G) (cy : Nat → ClassId) (am aS aBf aAs aSv aPa aOu aTx aCo K OM LN CM : Nat) (iS th ea fa : Int32) (x : Lx) (f : Nat → Int32) (hL : LN ≤ 60) (hx : x.1 ≤ LN) (hcz : czN 60 f) (hok : ∀ j, j < LN → sgOK (f j)) : RO l yX8_behind wsX8_behind { frames := 0, cells := 0, slots := 0, locals := 0 } (PB G cy [(am, .inr (12, [.ref aS, .ref aBf, .ref aAs, .ref aSv, .int iS, .ref aPa, .int (nI K), .int th, .ref aOu, .int (nI OM), .ref aTx, .int (nI LN), .int (nI x.1), .int (bI x.2), .int ea, .int fa, .ref aCo, .int (nI CM)])), (aTx, .inl (cy 1, 60, .inl f))]) [.ref am, .int 1] (some (.int (pk1 f LN x))) := by
  refine RO.ofW (cc := cX8_behind) (maxL := 2) (ret := (some .char)) (by decide) rfl (Nat.le_of_ble_eq_true rfl) ?_
  intro p e s m below meth cq S9 hr hlocks hPB ls hl
  obtain ⟨hxq, hb, hml, hown, hts⟩ := id S9
  obtain ⟨hP, hK⟩ := hPB
  have hl : lv_has ls 2 [(0, .ref am), (1, .int 1)] := hl
  have hi12 : ∀ w ∈ wsX80, w ∈ wsX8_behind := by decide +kernel
  have hf29 := hts (.fieldLink RX8 29 "BathLeagueModel" "text" "[C") (by decide +kernel)
  have hf190 := hts (.fieldLink RX8 190 "BathLeagueModel" "length" "I") (by decide +kernel)
  have hf193 := hts (.fieldLink RX8 193 "BathLeagueModel" "at" "I") (by decide +kernel)
  refine lv_aload_n hxq hb dX8_behind_0 rfl (lv_at hl 0 rfl) ?_
  refine va_get (D := G) (ci := 12) (v := .int (nI x.1)) (C := RX8) (T := TX8) (N := 18) hxq hb hts hi12 hown hK.1 hP 0 rfl rfl 12 (by decide) hf193 (fun _ h9 => h9) rfl dX8_behind_1 ?_
  refine lv_iload_n hxq hb dX8_behind_4 rfl (lv_at hl 1 rfl) ?_
  refine lv_iadd hxq hb dX8_behind_5 ?_
  refine lv_aload_n hxq hb dX8_behind_6 rfl (lv_at hl 0 rfl) ?_
  refine va_get (D := G) (ci := 12) (v := .int (nI LN)) (C := RX8) (T := TX8) (N := 18) hxq hb hts hi12 hown hK.1 hP 0 rfl rfl 11 (by decide) hf190 (fun _ h9 => h9) rfl dX8_behind_7 ?_
  refine lv_icmp_ge (tgt := 27) hxq hb dX8_behind_10 (by decide) (fun c_1 => ?_) (fun c_1 => ?_)
  · have k_2 : LN ≤ x.1 + 1 := (m_leN (a := LN) (b := x.1 + 1) rfl (m_add rfl rfl) (by omega) (by omega)).mp c_1
    have k_2' : ¬ (x.1 + 1 < LN) := by omega
    refine lv_iconst (v := 0) hxq hb dX8_behind_27 (by decide) ?_
    exact ro_zret hxq hb hr hlocks (congrArg Value.int (pk1_c hcz hL)) (by unfold pk1; simp [k_2', k_2]) dX8_behind_28
  · have k_3 : ¬ (LN ≤ x.1 + 1) := fun z => c_1 ((m_leN (a := LN) (b := x.1 + 1) rfl (m_add rfl rfl) (by omega) (by omega)).mpr z)
    have k_3' : x.1 + 1 < LN := by omega
    refine lv_aload_n hxq hb dX8_behind_13 rfl (lv_at hl 0 rfl) ?_
    refine va_get (D := G) (ci := 12) (v := .ref aTx) (C := RX8) (T := TX8) (N := 18) hxq hb hts hi12 hown hK.1 hP 0 rfl rfl 10 (by decide) hf29 (fun _ h9 => h9) rfl dX8_behind_14 ?_
    refine lv_aload_n hxq hb dX8_behind_17 rfl (lv_at hl 0 rfl) ?_
    refine va_get (D := G) (ci := 12) (v := .int (nI x.1)) (C := RX8) (T := TX8) (N := 18) hxq hb hts hi12 hown hK.1 hP 0 rfl rfl 12 (by decide) hf193 (fun _ h9 => h9) rfl dX8_behind_18 ?_
    refine lv_iload_n hxq hb dX8_behind_21 rfl (lv_at hl 1 rfl) ?_
    refine lv_iadd hxq hb dX8_behind_22 ?_
    refine m_cald hxq hb hK hP 1 (k := x.1 + 1) rfl (m_add rfl rfl) (by omega) (Nat.le_of_ble_eq_true rfl) dX8_behind_23 ?_
    refine lv_goto (tgt := 28) hxq hb dX8_behind_24 (by decide) ?_
    exact ro_zret hxq hb hr hlocks (congrArg Value.int (pk1_c hcz hL)) (by unfold pk1; simp [k_3', k_3]) dX8_behind_28

set_option maxRecDepth 100000 in
set_option maxHeartbeats 1000000 in
theorem c_X8_skip (l : Launch) (G : va_G) (cy : Nat → ClassId) (kS vS : Nat → Nat) (am aS aBf aAs aSv aPa aOu aTx aCo K OM LN CM : Nat) (iS th ea fa : Int32) (x : Lx) (f : Nat → Int32) (i : Nat) (hL : LN ≤ 60) (hx : x.1 ≤ LN) (hcz : czN 60 f) (hok : ∀ j, j < LN → sgOK (f j)) (hi : i < 20) : WC l yX8_skip wsX8_skip { frames := 4, cells := 0, slots := 0, locals := 85 } G (PS G cy kS vS [(am, .inr (12, [.ref aS, .ref aBf, .ref aAs, .ref aSv, .int iS, .ref aPa, .int (nI K), .int th, .ref aOu, .int (nI OM), .ref aTx, .int (nI LN), .int (nI x.1), .int (bI x.2), .int ea, .int fa, .ref aCo, .int (nI CM)])), (aTx, .inl (cy 1, 60, .inl f))]) [.ref am, .ref (kS i)] [(am, .inr (12, [.ref aS, .ref aBf, .ref aAs, .ref aSv, .int iS, .ref aPa, .int (nI K), .int th, .ref aOu, .int (nI OM), .ref aTx, .int (nI LN), .int (nI x.1), .int (bI x.2), .int ea, .int fa, .ref aCo, .int (nI CM)])), (aTx, .inl (cy 1, 60, .inl f))] [(am, .inr (12, [.ref aS, .ref aBf, .ref aAs, .ref aSv, .int iS, .ref aPa, .int (nI K), .int th, .ref aOu, .int (nI OM), .ref aTx, .int (nI LN), .int (nI ((wd f LN (ltS i) x).1)), .int (bI (wd f LN (ltS i) x).2), .int ea, .int fa, .ref aCo, .int (nI CM)])), (aTx, .inl (cy 1, 60, .inl f))] (none) := by
  refine WC.ofW (cc := cX8_skip) (maxL := 3) (ret := none) (by decide) rfl (Nat.le_of_ble_eq_true rfl) ?_
  intro p e s m below meth cq S9 hr hlocks hPB hD hS ls hl
  obtain ⟨hxq, hb, hml, hown, hts⟩ := id S9
  obtain ⟨⟨hP, hK⟩, hSK⟩ := hPB
  have hl : lv_has ls 3 [(0, .ref am), (1, .ref (kS i))] := hl
  have hi12 : ∀ w ∈ wsX80, w ∈ wsX8_skip := by decide +kernel
  have hf193 := hts (.fieldLink RX8 193 "BathLeagueModel" "at" "I") (by decide +kernel)
  have hf200 := hts (.fieldLink RX8 200 "BathLeagueModel" "isWrong" "Z") (by decide +kernel)
  refine lv_iconst (v := 0) hxq hb dX8_skip_0 (by decide) ?_
  refine lv_istore_n (lv' := [(2, .int 0), (0, .ref am), (1, .ref (kS i))]) hxq hb dX8_skip_1 rfl hl (by decide) rfl (fun ls hl => ?_)
  have L_1 : ∀ (d k : Nat), k + d = (lnS i) → ∀ (H : Heap) (locs : List Loc), va_P G vwCl [(am, .inr (12, [.ref aS, .ref aBf, .ref aAs, .ref aSv, .int iS, .ref aPa, .int (nI K), .int th, .ref aOu, .int (nI OM), .ref aTx, .int (nI LN), .int (nI ((wd f LN ((ltS i).take k) x).1)), .int (bI (wd f LN ((ltS i).take k) x).2), .int ea, .int fa, .ref aCo, .int (nI CM)])), (aTx, .inl (cy 1, 60, .inl f))] H → va_D (wA [(am, .inr (12, [.ref aS, .ref aBf, .ref aAs, .ref aSv, .int iS, .ref aPa, .int (nI K), .int th, .ref aOu, .int (nI OM), .ref aTx, .int (nI LN), .int (nI x.1), .int (bI x.2), .int ea, .int fa, .ref aCo, .int (nI CM)])), (aTx, .inl (cy 1, 60, .inl f))]) [(am, .inr (12, [.ref aS, .ref aBf, .ref aAs, .ref aSv, .int iS, .ref aPa, .int (nI K), .int th, .ref aOu, .int (nI OM), .ref aTx, .int (nI LN), .int (nI ((wd f LN ((ltS i).take k) x).1)), .int (bI (wd f LN ((ltS i).take k) x).2), .int ea, .int fa, .ref aCo, .int (nI CM)])), (aTx, .inl (cy 1, 60, .inl f))] → va_S (wA [(am, .inr (12, [.ref aS, .ref aBf, .ref aAs, .ref aSv, .int iS, .ref aPa, .int (nI K), .int th, .ref aOu, .int (nI OM), .ref aTx, .int (nI LN), .int (nI x.1), .int (bI x.2), .int ea, .int fa, .ref aCo, .int (nI CM)])), (aTx, .inl (cy 1, 60, .inl f))]) s.heap H locs → ∀ ls : Array Slot, lv_has ls 3 [(0, .ref am), (1, .ref (kS i)), (2, .int (nI k))] → W p l e ({ frames := 4, cells := 0, slots := 0, locals := 85 } : Room) s m ([.ref am, .ref (kS i)] : List Value).toArray below meth cq H locs 0 0 (wcZ below ([.ref am, .ref (kS i)] : List Value).toArray s G [(am, .inr (12, [.ref aS, .ref aBf, .ref aAs, .ref aSv, .int iS, .ref aPa, .int (nI K), .int th, .ref aOu, .int (nI OM), .ref aTx, .int (nI LN), .int (nI x.1), .int (bI x.2), .int ea, .int fa, .ref aCo, .int (nI CM)])), (aTx, .inl (cy 1, 60, .inl f))] [(am, .inr (12, [.ref aS, .ref aBf, .ref aAs, .ref aSv, .int iS, .ref aPa, .int (nI K), .int th, .ref aOu, .int (nI OM), .ref aTx, .int (nI LN), .int (nI ((wd f LN (ltS i) x).1)), .int (bI (wd f LN (ltS i) x).2), .int ea, .int fa, .ref aCo, .int (nI CM)])), (aTx, .inl (cy 1, 60, .inl f))] (none)) (F0 m 2 ls []) := by
    intro d
    induction d with
    | zero =>
      intro k hkk H locs hP hD hS ls hl
      have hl9 : lnS i < 10 := lnS_lt hi
      refine lv_iload_n hxq hb dX8_skip_2 rfl (lv_at hl 2 rfl) ?_
      refine lv_aload_n hxq hb dX8_skip_3 rfl (lv_at hl 1 rfl) ?_
      refine c_roVi S9 (c_J0_length_8abf5 l G cy kS vS i (by first | assumption | decide)) (cwV 0 hts gX8_skip_J0_length_8abf5 rfl rfl rfl (by decide +kernel) ⟨Nat.le_of_ble_eq_true rfl, Nat.le_of_ble_eq_true rfl⟩) PK.blind (litS.recv hSK.1 (by first | assumption | decide) hS) (PK.at hK hSK hS) rfl hl.1 rfl (Nat.le_of_ble_eq_true rfl) ⟨Nat.zero_le _, Nat.zero_le _⟩ dX8_skip_4 ?_
      refine lv_icmp_ge (tgt := 66) hxq hb dX8_skip_7 (by decide) (fun c_2 => ?_) (fun c_2 => ?_)
      · have k_3 : (lnS i) ≤ k := (m_leN (a := (lnS i)) (b := k) rfl rfl (by omega) (by omega)).mp c_2
        have k_3' : ¬ (k < (lnS i)) := by omega
        have e9 : wd f LN ((ltS i).take k) x = wd f LN (ltS i) x := by rw [List.take_of_length_le (by rw [← lnS_eq hi]; omega)]
        rw [e9] at hP
        exact wc_vret hxq hb hr hlocks hP hS dX8_skip_66
      · have k_4 : ¬ ((lnS i) ≤ k) := fun z => c_2 ((m_leN (a := (lnS i)) (b := k) rfl rfl (by omega) (by omega)).mpr z)
        have k_4' : k < (lnS i) := by omega
        exfalso; omega
    | succ d ih =>
      intro k hkk H locs hP hD hS ls hl
      have hl9 : lnS i < 10 := lnS_lt hi
      have hc9 : ¬ chS i k = 0 := ((chS_ok i hi).2.2 k (show k < lnS i by omega)).2.2
      refine lv_iload_n hxq hb dX8_skip_2 rfl (lv_at hl 2 rfl) ?_
      refine lv_aload_n hxq hb dX8_skip_3 rfl (lv_at hl 1 rfl) ?_
      refine c_roVi S9 (c_J0_length_8abf5 l G cy kS vS i (by first | assumption | decide)) (cwV 0 hts gX8_skip_J0_length_8abf5 rfl rfl rfl (by decide +kernel) ⟨Nat.le_of_ble_eq_true rfl, Nat.le_of_ble_eq_true rfl⟩) PK.blind (litS.recv hSK.1 (by first | assumption | decide) hS) (PK.at hK hSK hS) rfl hl.1 rfl (Nat.le_of_ble_eq_true rfl) ⟨Nat.zero_le _, Nat.zero_le _⟩ dX8_skip_4 ?_
      refine lv_icmp_ge (tgt := 66) hxq hb dX8_skip_7 (by decide) (fun c_5 => ?_) (fun c_5 => ?_)
      · have k_6 : (lnS i) ≤ k := (m_leN (a := (lnS i)) (b := k) rfl rfl (by omega) (by omega)).mp c_5
        have k_6' : ¬ (k < (lnS i)) := by omega
        exfalso; omega
      · have k_7 : ¬ ((lnS i) ≤ k) := fun z => c_5 ((m_leN (a := (lnS i)) (b := k) rfl rfl (by omega) (by omega)).mpr z)
        have k_7' : k < (lnS i) := by omega
        refine lv_aload_n hxq hb dX8_skip_10 rfl (lv_at hl 0 rfl) ?_
        refine va_get (D := G) (ci := 12) (v := .int (bI (wd f LN ((ltS i).take k) x).2)) (C := RX8) (T := TX8) (N := 18) hxq hb hts hi12 hown hK.1 hP 0 rfl rfl 13 (by decide) hf200 (fun _ h9 => h9) rfl dX8_skip_11 ?_
        refine lv_if_ne (tgt := 66) hxq hb dX8_skip_14 (by decide) (fun c_8 => ?_) (fun c_8 => ?_)
        · have z_9 : (wd f LN ((ltS i).take k) x).2 = true := bI_t c_8
          have e9 : wd f LN ((ltS i).take k) x = wd f LN (ltS i) x := (wd_stop hi z_9).symm
          rw [e9] at hP
          exact wc_vret hxq hb hr hlocks hP hS dX8_skip_66
        · have z_10 : (wd f LN ((ltS i).take k) x).2 = false := bI_f c_8
          refine lv_aload_n hxq hb dX8_skip_17 rfl (lv_at hl 0 rfl) ?_
          refine lv_aload_n hxq hb dX8_skip_18 rfl (lv_at hl 0 rfl) ?_
          refine lv_iconst (v := 0) hxq hb dX8_skip_19 (by decide) ?_
          refine c_roVi S9 (c_X8_behind0 l G cy am aS aBf aAs aSv aPa aOu aTx aCo K OM LN CM iS th ea fa (wd f LN ((ltS i).take k) x) f hL (wdt_le hi hx) hcz hok z_10) (cwV 1 hts gX8_skip_X8_behind rfl rfl rfl (by decide +kernel) ⟨Nat.le_of_ble_eq_true rfl, Nat.le_of_ble_eq_true rfl⟩) PB.blind (va_recv hK.1 hP (ci := 12) (q0 := 0) rfl rfl) (PB.at hK (m_Ppart hP [0, 1] rfl)) rfl hl.1 rfl (Nat.le_of_ble_eq_true rfl) ⟨Nat.zero_le _, Nat.zero_le _⟩ dX8_skip_20 ?_
          refine lv_aload_n hxq hb dX8_skip_23 rfl (lv_at hl 1 rfl) ?_
          refine lv_iload_n hxq hb dX8_skip_24 rfl (lv_at hl 2 rfl) ?_
          refine c_roVi S9 (c_J0_charAt_5068e l G cy kS vS i k (by first | assumption | decide) (show k < lnS i by omega)) (cwV 1 hts gX8_skip_J0_charAt_5068e rfl rfl rfl (by decide +kernel) ⟨Nat.le_of_ble_eq_true rfl, Nat.le_of_ble_eq_true rfl⟩) PK.blind (litS.recv hSK.1 (by first | assumption | decide) hS) (PK.at hK hSK hS) rfl hl.1 rfl (Nat.le_of_ble_eq_true rfl) ⟨Nat.zero_le _, Nat.zero_le _⟩ dX8_skip_25 ?_
          refine lv_icmp_eq (tgt := 35) hxq hb dX8_skip_28 (by decide) (fun c_11 => ?_) (fun c_11 => ?_)
          · refine lv_iconst (v := 0) hxq hb dX8_skip_35 (by decide) ?_
            refine va_put (D := G) (ci := 12) (v := .int 0) (ty := .boolean) (C := RX8) (T := TX8) (N := 18) hxq hb hts hi12 tyX8 tyX8_ok nmX8 hown hK.1 hP hD hS 0 rfl rfl 13 (by decide) hf200 (fun _ h9 => h9) rfl (by decide +kernel) rfl rfl (Nat.le_of_ble_eq_true rfl) dX8_skip_36 (fun H locs hP hD hS => ?_)
            have hP : va_P G vwCl [(am, .inr (12, [.ref aS, .ref aBf, .ref aAs, .ref aSv, .int iS, .ref aPa, .int (nI K), .int th, .ref aOu, .int (nI OM), .ref aTx, .int (nI LN), .int (nI ((wd f LN ((ltS i).take k) x).1)), .int 0, .int ea, .int fa, .ref aCo, .int (nI CM)])), (aTx, .inl (cy 1, 60, .inl f))] H := hP
            have hD : va_D (wA [(am, .inr (12, [.ref aS, .ref aBf, .ref aAs, .ref aSv, .int iS, .ref aPa, .int (nI K), .int th, .ref aOu, .int (nI OM), .ref aTx, .int (nI LN), .int (nI x.1), .int (bI x.2), .int ea, .int fa, .ref aCo, .int (nI CM)])), (aTx, .inl (cy 1, 60, .inl f))]) [(am, .inr (12, [.ref aS, .ref aBf, .ref aAs, .ref aSv, .int iS, .ref aPa, .int (nI K), .int th, .ref aOu, .int (nI OM), .ref aTx, .int (nI LN), .int (nI ((wd f LN ((ltS i).take k) x).1)), .int 0, .int ea, .int fa, .ref aCo, .int (nI CM)])), (aTx, .inl (cy 1, 60, .inl f))] := hD
            refine lv_aload_n hxq hb dX8_skip_39 rfl (lv_at hl 0 rfl) ?_
            refine lv_dup hxq hb dX8_skip_40 rfl ?_
            refine va_get (D := G) (ci := 12) (v := .int (nI ((wd f LN ((ltS i).take k) x).1))) (C := RX8) (T := TX8) (N := 18) hxq hb hts hi12 hown hK.1 hP 0 rfl rfl 12 (by decide) hf193 (fun _ h9 => h9) rfl dX8_skip_41 ?_
            refine lv_aload_n hxq hb dX8_skip_44 rfl (lv_at hl 0 rfl) ?_
            refine va_get (D := G) (ci := 12) (v := .int 0) (C := RX8) (T := TX8) (N := 18) hxq hb hts hi12 hown hK.1 hP 0 rfl rfl 13 (by decide) hf200 (fun _ h9 => h9) rfl dX8_skip_45 ?_
            refine lv_if_eq (tgt := 55) hxq hb dX8_skip_48 (by decide) (fun c_12 => ?_) (fun c_12 => ?_)
            · refine lv_iconst (v := 1) hxq hb dX8_skip_55 (by decide) ?_
              refine lv_iadd hxq hb dX8_skip_56 ?_
              refine lv_t0 (show (nI ((wd f LN ((ltS i).take k) x).1)) + 1 = nI (((wd f LN ((ltS i).take k) x).1) + 1) from (m_add rfl rfl)) ?_
              refine va_put (D := G) (ci := 12) (v := .int (nI (((wd f LN ((ltS i).take k) x).1) + 1))) (ty := .int) (C := RX8) (T := TX8) (N := 18) hxq hb hts hi12 tyX8 tyX8_ok nmX8 hown hK.1 hP hD hS 0 rfl rfl 12 (by decide) hf193 (fun _ h9 => h9) rfl (by decide +kernel) rfl rfl (Nat.le_of_ble_eq_true rfl) dX8_skip_57 (fun H locs hP hD hS => ?_)
              have hP : va_P G vwCl [(am, .inr (12, [.ref aS, .ref aBf, .ref aAs, .ref aSv, .int iS, .ref aPa, .int (nI K), .int th, .ref aOu, .int (nI OM), .ref aTx, .int (nI LN), .int (nI (((wd f LN ((ltS i).take k) x).1) + 1)), .int 0, .int ea, .int fa, .ref aCo, .int (nI CM)])), (aTx, .inl (cy 1, 60, .inl f))] H := hP
              have hD : va_D (wA [(am, .inr (12, [.ref aS, .ref aBf, .ref aAs, .ref aSv, .int iS, .ref aPa, .int (nI K), .int th, .ref aOu, .int (nI OM), .ref aTx, .int (nI LN), .int (nI x.1), .int (bI x.2), .int ea, .int fa, .ref aCo, .int (nI CM)])), (aTx, .inl (cy 1, 60, .inl f))]) [(am, .inr (12, [.ref aS, .ref aBf, .ref aAs, .ref aSv, .int iS, .ref aPa, .int (nI K), .int th, .ref aOu, .int (nI OM), .ref aTx, .int (nI LN), .int (nI (((wd f LN ((ltS i).take k) x).1) + 1)), .int 0, .int ea, .int fa, .ref aCo, .int (nI CM)])), (aTx, .inl (cy 1, 60, .inl f))] := hD
              have e1 : sg f LN (chS i k) (wd f LN ((ltS i).take k) x) = ((wd f LN ((ltS i).take k) x).1 + 1, false) := sg_y c_11
              have hP : va_P G vwCl [(am, .inr (12, [.ref aS, .ref aBf, .ref aAs, .ref aSv, .int iS, .ref aPa, .int (nI K), .int th, .ref aOu, .int (nI OM), .ref aTx, .int (nI LN), .int (nI ((sg f LN (chS i k) (wd f LN ((ltS i).take k) x)).1)), .int (bI (sg f LN (chS i k) (wd f LN ((ltS i).take k) x)).2), .int ea, .int fa, .ref aCo, .int (nI CM)])), (aTx, .inl (cy 1, 60, .inl f))] H := by rw [e1]; exact hP
              have hD : va_D (wA [(am, .inr (12, [.ref aS, .ref aBf, .ref aAs, .ref aSv, .int iS, .ref aPa, .int (nI K), .int th, .ref aOu, .int (nI OM), .ref aTx, .int (nI LN), .int (nI x.1), .int (bI x.2), .int ea, .int fa, .ref aCo, .int (nI CM)])), (aTx, .inl (cy 1, 60, .inl f))]) [(am, .inr (12, [.ref aS, .ref aBf, .ref aAs, .ref aSv, .int iS, .ref aPa, .int (nI K), .int th, .ref aOu, .int (nI OM), .ref aTx, .int (nI LN), .int (nI ((sg f LN (chS i k) (wd f LN ((ltS i).take k) x)).1)), .int (bI (sg f LN (chS i k) (wd f LN ((ltS i).take k) x)).2), .int ea, .int fa, .ref aCo, .int (nI CM)])), (aTx, .inl (cy 1, 60, .inl f))] := m_D2 hD
              refine lv_iinc (v := nI (k + 1)) (lv' := [(2, .int (nI (k + 1))), (0, .ref am), (1, .ref (kS i))]) hxq hb dX8_skip_60 hl (k := 2) rfl (m_inc _) (by decide) rfl (fun ls hl => ?_)
              refine lv_goto (tgt := 2) hxq hb dX8_skip_63 (by decide) ?_
              have e_13 : wd f LN ((ltS i).take (k + 1)) x = sg f LN (chS i k) (wd f LN ((ltS i).take k) x) := wd_step _ _ _ _ (ltS_at hi (by omega))
              exact ih (k + 1) (by omega) H locs (by rw [e_13]; exact hP) (m_D2 hD) hS ls (lv_sub hl [1, 2, 0] rfl)
            · exact absurd c_12 (by decide)
          · refine lv_iconst (v := 1) hxq hb dX8_skip_31 (by decide) ?_
            refine lv_goto (tgt := 36) hxq hb dX8_skip_32 (by decide) ?_
            refine va_put (D := G) (ci := 12) (v := .int 1) (ty := .boolean) (C := RX8) (T := TX8) (N := 18) hxq hb hts hi12 tyX8 tyX8_ok nmX8 hown hK.1 hP hD hS 0 rfl rfl 13 (by decide) hf200 (fun _ h9 => h9) rfl (by decide +kernel) rfl rfl (Nat.le_of_ble_eq_true rfl) dX8_skip_36 (fun H locs hP hD hS => ?_)
            have hP : va_P G vwCl [(am, .inr (12, [.ref aS, .ref aBf, .ref aAs, .ref aSv, .int iS, .ref aPa, .int (nI K), .int th, .ref aOu, .int (nI OM), .ref aTx, .int (nI LN), .int (nI ((wd f LN ((ltS i).take k) x).1)), .int 1, .int ea, .int fa, .ref aCo, .int (nI CM)])), (aTx, .inl (cy 1, 60, .inl f))] H := hP
            have hD : va_D (wA [(am, .inr (12, [.ref aS, .ref aBf, .ref aAs, .ref aSv, .int iS, .ref aPa, .int (nI K), .int th, .ref aOu, .int (nI OM), .ref aTx, .int (nI LN), .int (nI x.1), .int (bI x.2), .int ea, .int fa, .ref aCo, .int (nI CM)])), (aTx, .inl (cy 1, 60, .inl f))]) [(am, .inr (12, [.ref aS, .ref aBf, .ref aAs, .ref aSv, .int iS, .ref aPa, .int (nI K), .int th, .ref aOu, .int (nI OM), .ref aTx, .int (nI LN), .int (nI ((wd f LN ((ltS i).take k) x).1)), .int 1, .int ea, .int fa, .ref aCo, .int (nI CM)])), (aTx, .inl (cy 1, 60, .inl f))] := hD
            refine lv_aload_n hxq hb dX8_skip_39 rfl (lv_at hl 0 rfl) ?_
            refine lv_dup hxq hb dX8_skip_40 rfl ?_
            refine va_get (D := G) (ci := 12) (v := .int (nI ((wd f LN ((ltS i).take k) x).1))) (C := RX8) (T := TX8) (N := 18) hxq hb hts hi12 hown hK.1 hP 0 rfl rfl 12 (by decide) hf193 (fun _ h9 => h9) rfl dX8_skip_41 ?_
            refine lv_aload_n hxq hb dX8_skip_44 rfl (lv_at hl 0 rfl) ?_
            refine va_get (D := G) (ci := 12) (v := .int 1) (C := RX8) (T := TX8) (N := 18) hxq hb hts hi12 hown hK.1 hP 0 rfl rfl 13 (by decide) hf200 (fun _ h9 => h9) rfl dX8_skip_45 ?_
            refine lv_if_eq (tgt := 55) hxq hb dX8_skip_48 (by decide) (fun c_14 => ?_) (fun c_14 => ?_)
            · exact absurd c_14 (by decide)
            · refine lv_iconst (v := 0) hxq hb dX8_skip_51 (by decide) ?_
              refine lv_goto (tgt := 56) hxq hb dX8_skip_52 (by decide) ?_
              refine lv_iadd hxq hb dX8_skip_56 ?_
              refine lv_t0 (show (nI ((wd f LN ((ltS i).take k) x).1)) + 0 = nI (((wd f LN ((ltS i).take k) x).1) + 0) from (m_add rfl rfl)) ?_
              refine va_put (D := G) (ci := 12) (v := .int (nI (((wd f LN ((ltS i).take k) x).1) + 0))) (ty := .int) (C := RX8) (T := TX8) (N := 18) hxq hb hts hi12 tyX8 tyX8_ok nmX8 hown hK.1 hP hD hS 0 rfl rfl 12 (by decide) hf193 (fun _ h9 => h9) rfl (by decide +kernel) rfl rfl (Nat.le_of_ble_eq_true rfl) dX8_skip_57 (fun H locs hP hD hS => ?_)
              have hP : va_P G vwCl [(am, .inr (12, [.ref aS, .ref aBf, .ref aAs, .ref aSv, .int iS, .ref aPa, .int (nI K), .int th, .ref aOu, .int (nI OM), .ref aTx, .int (nI LN), .int (nI (((wd f LN ((ltS i).take k) x).1) + 0)), .int 1, .int ea, .int fa, .ref aCo, .int (nI CM)])), (aTx, .inl (cy 1, 60, .inl f))] H := hP
              have hD : va_D (wA [(am, .inr (12, [.ref aS, .ref aBf, .ref aAs, .ref aSv, .int iS, .ref aPa, .int (nI K), .int th, .ref aOu, .int (nI OM), .ref aTx, .int (nI LN), .int (nI x.1), .int (bI x.2), .int ea, .int fa, .ref aCo, .int (nI CM)])), (aTx, .inl (cy 1, 60, .inl f))]) [(am, .inr (12, [.ref aS, .ref aBf, .ref aAs, .ref aSv, .int iS, .ref aPa, .int (nI K), .int th, .ref aOu, .int (nI OM), .ref aTx, .int (nI LN), .int (nI (((wd f LN ((ltS i).take k) x).1) + 0)), .int 1, .int ea, .int fa, .ref aCo, .int (nI CM)])), (aTx, .inl (cy 1, 60, .inl f))] := hD
              have e1 : sg f LN (chS i k) (wd f LN ((ltS i).take k) x) = ((wd f LN ((ltS i).take k) x).1, true) := sg_n c_11
              have hP : va_P G vwCl [(am, .inr (12, [.ref aS, .ref aBf, .ref aAs, .ref aSv, .int iS, .ref aPa, .int (nI K), .int th, .ref aOu, .int (nI OM), .ref aTx, .int (nI LN), .int (nI ((sg f LN (chS i k) (wd f LN ((ltS i).take k) x)).1)), .int (bI (sg f LN (chS i k) (wd f LN ((ltS i).take k) x)).2), .int ea, .int fa, .ref aCo, .int (nI CM)])), (aTx, .inl (cy 1, 60, .inl f))] H := by rw [e1]; exact hP
              have hD : va_D (wA [(am, .inr (12, [.ref aS, .ref aBf, .ref aAs, .ref aSv, .int iS, .ref aPa, .int (nI K), .int th, .ref aOu, .int (nI OM), .ref aTx, .int (nI LN), .int (nI x.1), .int (bI x.2), .int ea, .int fa, .ref aCo, .int (nI CM)])), (aTx, .inl (cy 1, 60, .inl f))]) [(am, .inr (12, [.ref aS, .ref aBf, .ref aAs, .ref aSv, .int iS, .ref aPa, .int (nI K), .int th, .ref aOu, .int (nI OM), .ref aTx, .int (nI LN), .int (nI ((sg f LN (chS i k) (wd f LN ((ltS i).take k) x)).1)), .int (bI (sg f LN (chS i k) (wd f LN ((ltS i).take k) x)).2), .int ea, .int fa, .ref aCo, .int (nI CM)])), (aTx, .inl (cy 1, 60, .inl f))] := m_D2 hD
              refine lv_iinc (v := nI (k + 1)) (lv' := [(2, .int (nI (k + 1))), (0, .ref am), (1, .ref (kS i))]) hxq hb dX8_skip_60 hl (k := 2) rfl (m_inc _) (by decide) rfl (fun ls hl => ?_)
              refine lv_goto (tgt := 2) hxq hb dX8_skip_63 (by decide) ?_
              have e_15 : wd f LN ((ltS i).take (k + 1)) x = sg f LN (chS i k) (wd f LN ((ltS i).take k) x) := wd_step _ _ _ _ (ltS_at hi (by omega))
              exact ih (k + 1) (by omega) H locs (by rw [e_15]; exact hP) (m_D2 hD) hS ls (lv_sub hl [1, 2, 0] rfl)
  exact L_1 (lnS i) 0 (by omega) _ _ hP (m_D2 hD) hS ls (lv_sub hl [1, 2, 0] rfl)

set_option maxRecDepth 100000 in
set_option maxHeartbeats 1000000 in
theorem c_X8_isDigit (l : Launch) (G : va_G) (cy : Nat → ClassId) (am aS aBf aAs aSv aPa aOu aTx aCo K OM LN CM : Nat) (iS th ea fa : Int32) (x : Lx) (f : Nat → Int32) (hL : LN ≤ 60) (hx : x.1 ≤ LN) (hcz : czN 60 f) (hok : ∀ j, j < LN → sgOK (f j)) : RO l yX8_isDigit wsX8_isDigit { frames := 1, cells := 0, slots := 0, locals := 22 } (PB G cy [(am, .inr (12, [.ref aS, .ref aBf, .ref aAs, .ref aSv, .int iS, .ref aPa, .int (nI K), .int th, .ref aOu, .int (nI OM), .ref aTx, .int (nI LN), .int (nI x.1), .int (bI x.2), .int ea, .int fa, .ref aCo, .int (nI CM)])), (aTx, .inl (cy 1, 60, .inl f))]) [.ref am] (some (.int (if isD (pk f LN x) = true then 1 else 0))) := by
  refine RO.ofW (cc := cX8_isDigit) (maxL := 1) (ret := (some .boolean)) (by decide) rfl (Nat.le_of_ble_eq_true rfl) ?_
  intro p e s m below meth cq S9 hr hlocks hPB ls hl
  obtain ⟨hxq, hb, hml, hown, hts⟩ := id S9
  obtain ⟨hP, hK⟩ := hPB
  have hl : lv_has ls 1 [(0, .ref am)] := hl
  have hi12 : ∀ w ∈ wsX80, w ∈ wsX8_isDigit := by decide +kernel
  have hf200 := hts (.fieldLink RX8 200 "BathLeagueModel" "isWrong" "Z") (by decide +kernel)
  refine lv_aload_n hxq hb dX8_isDigit_0 rfl (lv_at hl 0 rfl) ?_
  refine va_get (D := G) (ci := 12) (v := .int (bI x.2)) (C := RX8) (T := TX8) (N := 18) hxq hb hts hi12 hown hK.1 hP 0 rfl rfl 13 (by decide) hf200 (fun _ h9 => h9) rfl dX8_isDigit_1 ?_
  refine lv_if_ne (tgt := 26) hxq hb dX8_isDigit_4 (by decide) (fun c_1 => ?_) (fun c_1 => ?_)
  · have z_2 : x.2 = true := bI_t c_1
    refine lv_iconst (v := 0) hxq hb dX8_isDigit_26 (by decide) ?_
    exact ro_zret hxq hb hr hlocks (by first | rfl | (split <;> rfl)) (by rw [pk_wrong z_2]; rfl) dX8_isDigit_27
  · have z_3 : x.2 = false := bI_f c_1
    refine lv_aload_n hxq hb dX8_isDigit_7 rfl (lv_at hl 0 rfl) ?_
    refine lv_iconst (v := 0) hxq hb dX8_isDigit_8 (by decide) ?_
    refine c_roVi S9 (c_X8_behind0 l G cy am aS aBf aAs aSv aPa aOu aTx aCo K OM LN CM iS th ea fa x f hL hx hcz hok z_3) (cwV 1 hts gX8_isDigit_X8_behind rfl rfl rfl (by decide +kernel) ⟨Nat.le_of_ble_eq_true rfl, Nat.le_of_ble_eq_true rfl⟩) PB.blind (va_recv hK.1 hP (ci := 12) (q0 := 0) rfl rfl) (PB.at hK (m_Ppart hP [0, 1] rfl)) rfl hl.1 rfl (Nat.le_of_ble_eq_true rfl) ⟨Nat.zero_le _, Nat.zero_le _⟩ dX8_isDigit_9 ?_
    refine lv_bipush (v := 48) hxq hb dX8_isDigit_12 (by decide) ?_
    refine lv_bipush (v := 57) hxq hb dX8_isDigit_14 (by decide) ?_
    refine c_roSi S9 (c_X8_in l G cy (pk f LN x) 48 57) (va_cwS 3 hts gX8_isDigit_X8_in rfl rfl rfl (by decide +kernel) ⟨Nat.le_of_ble_eq_true rfl, Nat.le_of_ble_eq_true rfl⟩) PB.blind (PB.at hK (m_Ppart hP [] rfl)) rfl hl.1 rfl (Nat.le_of_ble_eq_true rfl) ⟨Nat.zero_le _, Nat.zero_le _⟩ dX8_isDigit_16 ?_
    refine lv_if_eq (tgt := 26) hxq hb dX8_isDigit_19 (by decide) (fun c_4 => ?_) (fun c_4 => ?_)
    · have b_5 : ¬ (inR (pk f LN x) 48 57 = true) := m_ite0.mp c_4
      refine lv_iconst (v := 0) hxq hb dX8_isDigit_26 (by decide) ?_
      exact ro_zret hxq hb hr hlocks (by first | rfl | (split <;> rfl)) (if_neg (show ¬ isD (pk f LN x) = true from b_5)).symm dX8_isDigit_27
    · have b_6 : inR (pk f LN x) 48 57 = true := m_ite1.mp c_4
      refine lv_iconst (v := 1) hxq hb dX8_isDigit_22 (by decide) ?_
      refine lv_goto (tgt := 27) hxq hb dX8_isDigit_23 (by decide) ?_
      exact ro_zret hxq hb hr hlocks (by first | rfl | (split <;> rfl)) (if_pos (show isD (pk f LN x) = true from b_6)).symm dX8_isDigit_27

set_option maxRecDepth 100000 in
set_option maxHeartbeats 1000000 in
theorem c_X8_digit (l : Launch) (G : va_G) (cy : Nat → ClassId) (am aS aBf aAs aSv aPa aOu aTx aCo K OM LN CM : Nat) (iS th ea fa : Int32) (x : Lx) (f : Nat → Int32) (hL : LN ≤ 60) (hx : x.1 ≤ LN) (hcz : czN 60 f) (hok : ∀ j, j < LN → sgOK (f j)) : WC l yX8_digit wsX8_digit { frames := 2, cells := 0, slots := 0, locals := 42 } G (PB G cy [(am, .inr (12, [.ref aS, .ref aBf, .ref aAs, .ref aSv, .int iS, .ref aPa, .int (nI K), .int th, .ref aOu, .int (nI OM), .ref aTx, .int (nI LN), .int (nI x.1), .int (bI x.2), .int ea, .int fa, .ref aCo, .int (nI CM)])), (aTx, .inl (cy 1, 60, .inl f))]) [.ref am] [(am, .inr (12, [.ref aS, .ref aBf, .ref aAs, .ref aSv, .int iS, .ref aPa, .int (nI K), .int th, .ref aOu, .int (nI OM), .ref aTx, .int (nI LN), .int (nI x.1), .int (bI x.2), .int ea, .int fa, .ref aCo, .int (nI CM)])), (aTx, .inl (cy 1, 60, .inl f))] [(am, .inr (12, [.ref aS, .ref aBf, .ref aAs, .ref aSv, .int iS, .ref aPa, .int (nI K), .int th, .ref aOu, .int (nI OM), .ref aTx, .int (nI LN), .int (nI ((dgX f LN x).1)), .int (bI (dgX f LN x).2), .int ea, .int fa, .ref aCo, .int (nI CM)])), (aTx, .inl (cy 1, 60, .inl f))] (some (.int (dgV f LN x))) := by
  refine WC.ofW (cc := cX8_digit) (maxL := 1) (ret := (some .int)) (by decide) rfl (Nat.le_of_ble_eq_true rfl) ?_
  intro p e s m below meth cq S9 hr hlocks hPB hD hS ls hl
  obtain ⟨hxq, hb, hml, hown, hts⟩ := id S9
  obtain ⟨hP, hK⟩ := hPB
  have hl : lv_has ls 1 [(0, .ref am)] := hl
  have hi12 : ∀ w ∈ wsX80, w ∈ wsX8_digit := by decide +kernel
  have hf29 := hts (.fieldLink RX8 29 "BathLeagueModel" "text" "[C") (by decide +kernel)
  have hf193 := hts (.fieldLink RX8 193 "BathLeagueModel" "at" "I") (by decide +kernel)
  have hf200 := hts (.fieldLink RX8 200 "BathLeagueModel" "isWrong" "Z") (by decide +kernel)
  refine lv_aload_n hxq hb dX8_digit_0 rfl (lv_at hl 0 rfl) ?_
  refine lv_aload_n hxq hb dX8_digit_1 rfl (lv_at hl 0 rfl) ?_
  refine va_get (D := G) (ci := 12) (v := .int (bI x.2)) (C := RX8) (T := TX8) (N := 18) hxq hb hts hi12 hown hK.1 hP 0 rfl rfl 13 (by decide) hf200 (fun _ h9 => h9) rfl dX8_digit_2 ?_
  refine lv_if_ne (tgt := 15) hxq hb dX8_digit_5 (by decide) (fun c_1 => ?_) (fun c_1 => ?_)
  · have z_2 : x.2 = true := bI_t c_1
    refine lv_iconst (v := 1) hxq hb dX8_digit_15 (by decide) ?_
    refine lv_goto (tgt := 20) hxq hb dX8_digit_16 (by decide) ?_
    refine va_put (D := G) (ci := 12) (v := .int 1) (ty := .boolean) (C := RX8) (T := TX8) (N := 18) hxq hb hts hi12 tyX8 tyX8_ok nmX8 hown hK.1 hP hD hS 0 rfl rfl 13 (by decide) hf200 (fun _ h9 => h9) rfl (by decide +kernel) rfl rfl (Nat.le_of_ble_eq_true rfl) dX8_digit_20 (fun H locs hP hD hS => ?_)
    have hP : va_P G vwCl [(am, .inr (12, [.ref aS, .ref aBf, .ref aAs, .ref aSv, .int iS, .ref aPa, .int (nI K), .int th, .ref aOu, .int (nI OM), .ref aTx, .int (nI LN), .int (nI x.1), .int 1, .int ea, .int fa, .ref aCo, .int (nI CM)])), (aTx, .inl (cy 1, 60, .inl f))] H := hP
    have hD : va_D (wA [(am, .inr (12, [.ref aS, .ref aBf, .ref aAs, .ref aSv, .int iS, .ref aPa, .int (nI K), .int th, .ref aOu, .int (nI OM), .ref aTx, .int (nI LN), .int (nI x.1), .int (bI x.2), .int ea, .int fa, .ref aCo, .int (nI CM)])), (aTx, .inl (cy 1, 60, .inl f))]) [(am, .inr (12, [.ref aS, .ref aBf, .ref aAs, .ref aSv, .int iS, .ref aPa, .int (nI K), .int th, .ref aOu, .int (nI OM), .ref aTx, .int (nI LN), .int (nI x.1), .int 1, .int ea, .int fa, .ref aCo, .int (nI CM)])), (aTx, .inl (cy 1, 60, .inl f))] := hD
    refine lv_aload_n hxq hb dX8_digit_23 rfl (lv_at hl 0 rfl) ?_
    refine va_get (D := G) (ci := 12) (v := .int 1) (C := RX8) (T := TX8) (N := 18) hxq hb hts hi12 hown hK.1 hP 0 rfl rfl 13 (by decide) hf200 (fun _ h9 => h9) rfl dX8_digit_24 ?_
    refine lv_if_eq (tgt := 32) hxq hb dX8_digit_27 (by decide) (fun c_3 => ?_) (fun c_3 => ?_)
    · exact absurd c_3 (by decide)
    · refine lv_iconst (v := 0) hxq hb dX8_digit_30 (by decide) ?_
      have e9 : dgX f LN x = (x.1, true) := dgX_n (by rw [pk_wrong z_2]; decide)
      exact wc_iret hxq hb hr hlocks (by rw [e9]; exact hP) hS (if_neg (by rw [pk_wrong z_2]; decide)).symm dX8_digit_31
  · have z_4 : x.2 = false := bI_f c_1
    refine lv_aload_n hxq hb dX8_digit_8 rfl (lv_at hl 0 rfl) ?_
    refine c_roVi S9 (c_X8_isDigit l G cy am aS aBf aAs aSv aPa aOu aTx aCo K OM LN CM iS th ea fa x f hL hx hcz hok) (cwV 0 hts gX8_digit_X8_isDigit rfl rfl rfl (by decide +kernel) ⟨Nat.le_of_ble_eq_true rfl, Nat.le_of_ble_eq_true rfl⟩) PB.blind (va_recv hK.1 hP (ci := 12) (q0 := 0) rfl rfl) (PB.at hK (m_Ppart hP [0, 1] rfl)) rfl hl.1 rfl (Nat.le_of_ble_eq_true rfl) ⟨Nat.zero_le _, Nat.zero_le _⟩ dX8_digit_9 ?_
    refine lv_if_ne (tgt := 19) hxq hb dX8_digit_12 (by decide) (fun c_5 => ?_) (fun c_5 => ?_)
    · have b_6 : isD (pk f LN x) = true := m_ite1.mp c_5
      refine lv_iconst (v := 0) hxq hb dX8_digit_19 (by decide) ?_
      refine va_put (D := G) (ci := 12) (v := .int 0) (ty := .boolean) (C := RX8) (T := TX8) (N := 18) hxq hb hts hi12 tyX8 tyX8_ok nmX8 hown hK.1 hP hD hS 0 rfl rfl 13 (by decide) hf200 (fun _ h9 => h9) rfl (by decide +kernel) rfl rfl (Nat.le_of_ble_eq_true rfl) dX8_digit_20 (fun H locs hP hD hS => ?_)
      have hP : va_P G vwCl [(am, .inr (12, [.ref aS, .ref aBf, .ref aAs, .ref aSv, .int iS, .ref aPa, .int (nI K), .int th, .ref aOu, .int (nI OM), .ref aTx, .int (nI LN), .int (nI x.1), .int 0, .int ea, .int fa, .ref aCo, .int (nI CM)])), (aTx, .inl (cy 1, 60, .inl f))] H := hP
      have hD : va_D (wA [(am, .inr (12, [.ref aS, .ref aBf, .ref aAs, .ref aSv, .int iS, .ref aPa, .int (nI K), .int th, .ref aOu, .int (nI OM), .ref aTx, .int (nI LN), .int (nI x.1), .int (bI x.2), .int ea, .int fa, .ref aCo, .int (nI CM)])), (aTx, .inl (cy 1, 60, .inl f))]) [(am, .inr (12, [.ref aS, .ref aBf, .ref aAs, .ref aSv, .int iS, .ref aPa, .int (nI K), .int th, .ref aOu, .int (nI OM), .ref aTx, .int (nI LN), .int (nI x.1), .int 0, .int ea, .int fa, .ref aCo, .int (nI CM)])), (aTx, .inl (cy 1, 60, .inl f))] := hD
      refine lv_aload_n hxq hb dX8_digit_23 rfl (lv_at hl 0 rfl) ?_
      refine va_get (D := G) (ci := 12) (v := .int 0) (C := RX8) (T := TX8) (N := 18) hxq hb hts hi12 hown hK.1 hP 0 rfl rfl 13 (by decide) hf200 (fun _ h9 => h9) rfl dX8_digit_24 ?_
      refine lv_if_eq (tgt := 32) hxq hb dX8_digit_27 (by decide) (fun c_7 => ?_) (fun c_7 => ?_)
      · refine lv_aload_n hxq hb dX8_digit_32 rfl (lv_at hl 0 rfl) ?_
        refine lv_dup hxq hb dX8_digit_33 rfl ?_
        refine va_get (D := G) (ci := 12) (v := .int (nI x.1)) (C := RX8) (T := TX8) (N := 18) hxq hb hts hi12 hown hK.1 hP 0 rfl rfl 12 (by decide) hf193 (fun _ h9 => h9) rfl dX8_digit_34 ?_
        refine lv_iconst (v := 1) hxq hb dX8_digit_37 (by decide) ?_
        refine lv_iadd hxq hb dX8_digit_38 ?_
        refine lv_t0 (show (nI x.1) + 1 = nI (x.1 + 1) from (m_add rfl rfl)) ?_
        refine va_put (D := G) (ci := 12) (v := .int (nI (x.1 + 1))) (ty := .int) (C := RX8) (T := TX8) (N := 18) hxq hb hts hi12 tyX8 tyX8_ok nmX8 hown hK.1 hP hD hS 0 rfl rfl 12 (by decide) hf193 (fun _ h9 => h9) rfl (by decide +kernel) rfl rfl (Nat.le_of_ble_eq_true rfl) dX8_digit_39 (fun H locs hP hD hS => ?_)
        have hP : va_P G vwCl [(am, .inr (12, [.ref aS, .ref aBf, .ref aAs, .ref aSv, .int iS, .ref aPa, .int (nI K), .int th, .ref aOu, .int (nI OM), .ref aTx, .int (nI LN), .int (nI (x.1 + 1)), .int 0, .int ea, .int fa, .ref aCo, .int (nI CM)])), (aTx, .inl (cy 1, 60, .inl f))] H := hP
        have hD : va_D (wA [(am, .inr (12, [.ref aS, .ref aBf, .ref aAs, .ref aSv, .int iS, .ref aPa, .int (nI K), .int th, .ref aOu, .int (nI OM), .ref aTx, .int (nI LN), .int (nI x.1), .int (bI x.2), .int ea, .int fa, .ref aCo, .int (nI CM)])), (aTx, .inl (cy 1, 60, .inl f))]) [(am, .inr (12, [.ref aS, .ref aBf, .ref aAs, .ref aSv, .int iS, .ref aPa, .int (nI K), .int th, .ref aOu, .int (nI OM), .ref aTx, .int (nI LN), .int (nI (x.1 + 1)), .int 0, .int ea, .int fa, .ref aCo, .int (nI CM)])), (aTx, .inl (cy 1, 60, .inl f))] := hD
        have hlt9 := (isD_y b_6).2
        refine lv_aload_n hxq hb dX8_digit_42 rfl (lv_at hl 0 rfl) ?_
        refine va_get (D := G) (ci := 12) (v := .ref aTx) (C := RX8) (T := TX8) (N := 18) hxq hb hts hi12 hown hK.1 hP 0 rfl rfl 10 (by decide) hf29 (fun _ h9 => h9) rfl dX8_digit_43 ?_
        refine lv_aload_n hxq hb dX8_digit_46 rfl (lv_at hl 0 rfl) ?_
        refine va_get (D := G) (ci := 12) (v := .int (nI (x.1 + 1))) (C := RX8) (T := TX8) (N := 18) hxq hb hts hi12 hown hK.1 hP 0 rfl rfl 12 (by decide) hf193 (fun _ h9 => h9) rfl dX8_digit_47 ?_
        refine lv_iconst (v := 1) hxq hb dX8_digit_50 (by decide) ?_
        refine lv_isub hxq hb dX8_digit_51 ?_
        refine m_cald hxq hb hK hP 1 (k := x.1) rfl (m_pred rfl) (by omega) (Nat.le_of_ble_eq_true rfl) dX8_digit_52 ?_
        refine lv_bipush (v := 48) hxq hb dX8_digit_53 (by decide) ?_
        refine lv_isub hxq hb dX8_digit_55 ?_
        have e9 : dgX f LN x = (x.1 + 1, false) := (dgX_y b_6).trans (by rw [(isD_y b_6).1])
        exact wc_iret hxq hb hr hlocks (by rw [e9]; exact hP) hS ((congrArg (· - 48) (pk_at b_6)).trans (if_pos b_6).symm) dX8_digit_56
      · exact absurd c_7 (by decide)
    · have b_8 : ¬ (isD (pk f LN x) = true) := m_ite0.mp c_5
      refine lv_iconst (v := 1) hxq hb dX8_digit_15 (by decide) ?_
      refine lv_goto (tgt := 20) hxq hb dX8_digit_16 (by decide) ?_
      refine va_put (D := G) (ci := 12) (v := .int 1) (ty := .boolean) (C := RX8) (T := TX8) (N := 18) hxq hb hts hi12 tyX8 tyX8_ok nmX8 hown hK.1 hP hD hS 0 rfl rfl 13 (by decide) hf200 (fun _ h9 => h9) rfl (by decide +kernel) rfl rfl (Nat.le_of_ble_eq_true rfl) dX8_digit_20 (fun H locs hP hD hS => ?_)
      have hP : va_P G vwCl [(am, .inr (12, [.ref aS, .ref aBf, .ref aAs, .ref aSv, .int iS, .ref aPa, .int (nI K), .int th, .ref aOu, .int (nI OM), .ref aTx, .int (nI LN), .int (nI x.1), .int 1, .int ea, .int fa, .ref aCo, .int (nI CM)])), (aTx, .inl (cy 1, 60, .inl f))] H := hP
      have hD : va_D (wA [(am, .inr (12, [.ref aS, .ref aBf, .ref aAs, .ref aSv, .int iS, .ref aPa, .int (nI K), .int th, .ref aOu, .int (nI OM), .ref aTx, .int (nI LN), .int (nI x.1), .int (bI x.2), .int ea, .int fa, .ref aCo, .int (nI CM)])), (aTx, .inl (cy 1, 60, .inl f))]) [(am, .inr (12, [.ref aS, .ref aBf, .ref aAs, .ref aSv, .int iS, .ref aPa, .int (nI K), .int th, .ref aOu, .int (nI OM), .ref aTx, .int (nI LN), .int (nI x.1), .int 1, .int ea, .int fa, .ref aCo, .int (nI CM)])), (aTx, .inl (cy 1, 60, .inl f))] := hD
      refine lv_aload_n hxq hb dX8_digit_23 rfl (lv_at hl 0 rfl) ?_
      refine va_get (D := G) (ci := 12) (v := .int 1) (C := RX8) (T := TX8) (N := 18) hxq hb hts hi12 hown hK.1 hP 0 rfl rfl 13 (by decide) hf200 (fun _ h9 => h9) rfl dX8_digit_24 ?_
      refine lv_if_eq (tgt := 32) hxq hb dX8_digit_27 (by decide) (fun c_9 => ?_) (fun c_9 => ?_)
      · exact absurd c_9 (by decide)
      · refine lv_iconst (v := 0) hxq hb dX8_digit_30 (by decide) ?_
        have e9 : dgX f LN x = (x.1, true) := dgX_n b_8
        exact wc_iret hxq hb hr hlocks (by rw [e9]; exact hP) hS (if_neg b_8).symm dX8_digit_31

set_option maxRecDepth 100000 in
set_option maxHeartbeats 1000000 in
theorem c_X8_number (l : Launch) (G : va_G) (cy : Nat → ClassId) (am aS aBf aAs aSv aPa aOu aTx aCo K OM LN CM : Nat) (iS th ea fa : Int32) (x : Lx) (f : Nat → Int32) (hL : LN ≤ 60) (hx : x.1 ≤ LN) (hcz : czN 60 f) (hok : ∀ j, j < LN → sgOK (f j)) : WC l yX8_number wsX8_number { frames := 3, cells := 0, slots := 0, locals := 62 } G (PB G cy [(am, .inr (12, [.ref aS, .ref aBf, .ref aAs, .ref aSv, .int iS, .ref aPa, .int (nI K), .int th, .ref aOu, .int (nI OM), .ref aTx, .int (nI LN), .int (nI x.1), .int (bI x.2), .int ea, .int fa, .ref aCo, .int (nI CM)])), (aTx, .inl (cy 1, 60, .inl f))]) [.ref am] [(am, .inr (12, [.ref aS, .ref aBf, .ref aAs, .ref aSv, .int iS, .ref aPa, .int (nI K), .int th, .ref aOu, .int (nI OM), .ref aTx, .int (nI LN), .int (nI x.1), .int (bI x.2), .int ea, .int fa, .ref aCo, .int (nI CM)])), (aTx, .inl (cy 1, 60, .inl f))] [(am, .inr (12, [.ref aS, .ref aBf, .ref aAs, .ref aSv, .int iS, .ref aPa, .int (nI K), .int th, .ref aOu, .int (nI OM), .ref aTx, .int (nI LN), .int (nI ((nmX f LN x).1)), .int (bI (nmX f LN x).2), .int ea, .int fa, .ref aCo, .int (nI CM)])), (aTx, .inl (cy 1, 60, .inl f))] (some (.int (nmV f LN x))) := by
  refine WC.ofW (cc := cX8_number) (maxL := 2) (ret := (some .int)) (by decide) rfl (Nat.le_of_ble_eq_true rfl) ?_
  intro p e s m below meth cq S9 hr hlocks hPB hD hS ls hl
  obtain ⟨hxq, hb, hml, hown, hts⟩ := id S9
  obtain ⟨hP, hK⟩ := hPB
  have hl : lv_has ls 2 [(0, .ref am)] := hl
  refine lv_aload_n hxq hb dX8_number_0 rfl (lv_at hl 0 rfl) ?_
  refine c_wcVi (ws' := [(am, .inr (12, [.ref aS, .ref aBf, .ref aAs, .ref aSv, .int iS, .ref aPa, .int (nI K), .int th, .ref aOu, .int (nI OM), .ref aTx, .int (nI LN), .int (nI ((dgX f LN x).1)), .int (bI (dgX f LN x).2), .int ea, .int fa, .ref aCo, .int (nI CM)])), (aTx, .inl (cy 1, 60, .inl f))]) S9 (c_X8_digit l G cy am aS aBf aAs aSv aPa aOu aTx aCo K OM LN CM iS th ea fa x f hL hx hcz hok) (cwV 0 hts gX8_number_X8_digit rfl rfl rfl (by decide +kernel) ⟨Nat.le_of_ble_eq_true rfl, Nat.le_of_ble_eq_true rfl⟩) PB.blind (va_recv hK.1 hP (ci := 12) (q0 := 0) rfl rfl) (PB.at hK (m_Ppart hP [0, 1] rfl)) hP hD hS [0, 1] rfl rfl m_f2 rfl rfl hl.1 rfl (Nat.le_of_ble_eq_true rfl) ⟨Nat.zero_le _, Nat.zero_le _⟩ dX8_number_1 (fun H locs hP hD hS => ?_)
  refine lv_istore_n (lv' := [(1, .int (dgV f LN x)), (0, .ref am)]) hxq hb dX8_number_4 rfl hl (by decide) rfl (fun ls hl => ?_)
  refine lv_aload_n hxq hb dX8_number_5 rfl (lv_at hl 1 rfl) ?_
  refine c_roVi S9 (c_X8_isDigit l G cy am aS aBf aAs aSv aPa aOu aTx aCo K OM LN CM iS th ea fa (dgX f LN x) f hL (dgX_le hx) hcz hok) (cwV 0 hts gX8_number_X8_isDigit rfl rfl rfl (by decide +kernel) ⟨Nat.le_of_ble_eq_true rfl, Nat.le_of_ble_eq_true rfl⟩) PB.blind (va_recv hK.1 hP (ci := 12) (q0 := 0) rfl rfl) (PB.at hK (m_Ppart hP [0, 1] rfl)) rfl hl.1 rfl (Nat.le_of_ble_eq_true rfl) ⟨Nat.zero_le _, Nat.zero_le _⟩ dX8_number_6 ?_
  refine lv_if_eq (tgt := 24) hxq hb dX8_number_9 (by decide) (fun c_1 => ?_) (fun c_1 => ?_)
  · have b_2 : ¬ (isD (pk f LN (dgX f LN x)) = true) := m_ite0.mp c_1
    refine lv_iload_n hxq hb dX8_number_24 rfl (lv_at hl 0 rfl) ?_
    exact wc_iret hxq hb hr hlocks (by rw [show nmX f LN x = (dgX f LN x) from if_neg b_2]; exact hP) hS (if_neg b_2).symm dX8_number_25
  · have b_3 : isD (pk f LN (dgX f LN x)) = true := m_ite1.mp c_1
    refine lv_bipush (v := 10) hxq hb dX8_number_12 (by decide) ?_
    refine lv_iload_n hxq hb dX8_number_14 rfl (lv_at hl 0 rfl) ?_
    refine lv_imul hxq hb dX8_number_15 ?_
    refine lv_aload_n hxq hb dX8_number_16 rfl (lv_at hl 1 rfl) ?_
    refine c_wcVi (ws' := [(am, .inr (12, [.ref aS, .ref aBf, .ref aAs, .ref aSv, .int iS, .ref aPa, .int (nI K), .int th, .ref aOu, .int (nI OM), .ref aTx, .int (nI LN), .int (nI ((dgX f LN (dgX f LN x)).1)), .int (bI (dgX f LN (dgX f LN x)).2), .int ea, .int fa, .ref aCo, .int (nI CM)])), (aTx, .inl (cy 1, 60, .inl f))]) S9 (c_X8_digit l G cy am aS aBf aAs aSv aPa aOu aTx aCo K OM LN CM iS th ea fa (dgX f LN x) f hL (dgX_le hx) hcz hok) (cwV 0 hts gX8_number_X8_digit rfl rfl rfl (by decide +kernel) ⟨Nat.le_of_ble_eq_true rfl, Nat.le_of_ble_eq_true rfl⟩) PB.blind (va_recv hK.1 hP (ci := 12) (q0 := 0) rfl rfl) (PB.at hK (m_Ppart hP [0, 1] rfl)) hP hD hS [0, 1] rfl rfl m_f2 rfl rfl hl.1 rfl (Nat.le_of_ble_eq_true rfl) ⟨Nat.zero_le _, Nat.zero_le _⟩ dX8_number_17 (fun H locs hP hD hS => ?_)
    refine lv_iadd hxq hb dX8_number_20 ?_
    refine lv_goto (tgt := 25) hxq hb dX8_number_21 (by decide) ?_
    exact wc_iret hxq hb hr hlocks (by rw [show nmX f LN x = (dgX f LN (dgX f LN x)) from if_pos b_3]; exact hP) hS (if_pos b_3).symm dX8_number_25

set_option maxRecDepth 100000 in
set_option maxHeartbeats 1000000 in
theorem c_X8_letter (l : Launch) (G : va_G) (cy : Nat → ClassId) (kS vS : Nat → Nat) (am aS aBf aAs aSv aPa aOu aTx aCo K OM LN CM : Nat) (iS th ea fa : Int32) (x : Lx) (f : Nat → Int32) (i : Nat) (hL : LN ≤ 60) (hx : x.1 ≤ LN) (hcz : czN 60 f) (hok : ∀ j, j < LN → sgOK (f j)) (hi : i < 20) (hl0 : 0 < lnS i) : WC l yX8_letter wsX8_letter { frames := 4, cells := 0, slots := 0, locals := 91 } G (PS G cy kS vS [(am, .inr (12, [.ref aS, .ref aBf, .ref aAs, .ref aSv, .int iS, .ref aPa, .int (nI K), .int th, .ref aOu, .int (nI OM), .ref aTx, .int (nI LN), .int (nI x.1), .int (bI x.2), .int ea, .int fa, .ref aCo, .int (nI CM)])), (aTx, .inl (cy 1, 60, .inl f))]) [.ref am, .ref (kS i)] [(am, .inr (12, [.ref aS, .ref aBf, .ref aAs, .ref aSv, .int iS, .ref aPa, .int (nI K), .int th, .ref aOu, .int (nI OM), .ref aTx, .int (nI LN), .int (nI x.1), .int (bI x.2), .int ea, .int fa, .ref aCo, .int (nI CM)])), (aTx, .inl (cy 1, 60, .inl f))] [(am, .inr (12, [.ref aS, .ref aBf, .ref aAs, .ref aSv, .int iS, .ref aPa, .int (nI K), .int th, .ref aOu, .int (nI OM), .ref aTx, .int (nI LN), .int (nI ((ltX i f LN x).1)), .int (bI (ltX i f LN x).2), .int ea, .int fa, .ref aCo, .int (nI CM)])), (aTx, .inl (cy 1, 60, .inl f))] (some (.int (ltV i f LN x))) := by
  refine WC.ofW (cc := cX8_letter) (maxL := 3) (ret := (some .int)) (by decide) rfl (Nat.le_of_ble_eq_true rfl) ?_
  intro p e s m below meth cq S9 hr hlocks hPB hD hS ls hl
  obtain ⟨hxq, hb, hml, hown, hts⟩ := id S9
  obtain ⟨⟨hP, hK⟩, hSK⟩ := hPB
  have hl : lv_has ls 3 [(0, .ref am), (1, .ref (kS i))] := hl
  have hi12 : ∀ w ∈ wsX80, w ∈ wsX8_letter := by decide +kernel
  have hf193 := hts (.fieldLink RX8 193 "BathLeagueModel" "at" "I") (by decide +kernel)
  have hf200 := hts (.fieldLink RX8 200 "BathLeagueModel" "isWrong" "Z") (by decide +kernel)
  refine lv_aload_n hxq hb dX8_letter_0 rfl (lv_at hl 0 rfl) ?_
  refine va_get (D := G) (ci := 12) (v := .int (bI x.2)) (C := RX8) (T := TX8) (N := 18) hxq hb hts hi12 hown hK.1 hP 0 rfl rfl 13 (by decide) hf200 (fun _ h9 => h9) rfl dX8_letter_1 ?_
  refine lv_if_eq (tgt := 11) hxq hb dX8_letter_4 (by decide) (fun c_1 => ?_) (fun c_1 => ?_)
  · have z_2 : x.2 = false := bI_f c_1
    refine lv_aload_n hxq hb dX8_letter_11 rfl (lv_at hl 1 rfl) ?_
    refine lv_aload_n hxq hb dX8_letter_12 rfl (lv_at hl 0 rfl) ?_
    refine lv_iconst (v := 0) hxq hb dX8_letter_13 (by decide) ?_
    refine c_roVi S9 (c_X8_behind0 l G cy am aS aBf aAs aSv aPa aOu aTx aCo K OM LN CM iS th ea fa x f hL hx hcz hok z_2) (cwV 1 hts gX8_letter_X8_behind rfl rfl rfl (by decide +kernel) ⟨Nat.le_of_ble_eq_true rfl, Nat.le_of_ble_eq_true rfl⟩) PB.blind (va_recv hK.1 hP (ci := 12) (q0 := 0) rfl rfl) (PB.at hK (m_Ppart hP [0, 1] rfl)) rfl hl.1 rfl (Nat.le_of_ble_eq_true rfl) ⟨Nat.zero_le _, Nat.zero_le _⟩ dX8_letter_14 ?_
    refine c_roVi S9 (c_J0_indexOf_0f7a4 l G cy kS vS i (pk f LN x) (by first | assumption | decide) (pk_ok hok) hl0) (cwV 1 hts gX8_letter_J0_indexOf_0f7a4 rfl rfl rfl (by decide +kernel) ⟨Nat.le_of_ble_eq_true rfl, Nat.le_of_ble_eq_true rfl⟩) PK.blind (litS.recv hSK.1 (by first | assumption | decide) hS) (PK.at hK hSK hS) rfl hl.1 rfl (Nat.le_of_ble_eq_true rfl) ⟨Nat.zero_le _, Nat.zero_le _⟩ dX8_letter_17 ?_
    refine lv_istore_n (lv' := [(2, .int (ixS i (pk f LN x))), (0, .ref am), (1, .ref (kS i))]) hxq hb dX8_letter_20 rfl hl (by decide) rfl (fun ls hl => ?_)
    refine lv_aload_n hxq hb dX8_letter_21 rfl (lv_at hl 1 rfl) ?_
    refine lv_iload_n hxq hb dX8_letter_22 rfl (lv_at hl 0 rfl) ?_
    refine lv_if_ge (tgt := 30) hxq hb dX8_letter_23 (by decide) (fun c_3 => ?_) (fun c_3 => ?_)
    · have c_3' : ¬ (ixS i (pk f LN x)) < 0 := Int32.not_lt.mpr c_3
      have l9 : ¬ ixS i (pk f LN x) < 0 := Int32.not_lt.mpr c_3
      refine lv_iconst (v := 0) hxq hb dX8_letter_30 (by decide) ?_
      refine va_put (D := G) (ci := 12) (v := .int 0) (ty := .boolean) (C := RX8) (T := TX8) (N := 18) hxq hb hts hi12 tyX8 tyX8_ok nmX8 hown hK.1 hP hD hS 0 rfl rfl 13 (by decide) hf200 (fun _ h9 => h9) rfl (by decide +kernel) rfl rfl (Nat.le_of_ble_eq_true rfl) dX8_letter_31 (fun H locs hP hD hS => ?_)
      have hP : va_P G vwCl [(am, .inr (12, [.ref aS, .ref aBf, .ref aAs, .ref aSv, .int iS, .ref aPa, .int (nI K), .int th, .ref aOu, .int (nI OM), .ref aTx, .int (nI LN), .int (nI x.1), .int 0, .int ea, .int fa, .ref aCo, .int (nI CM)])), (aTx, .inl (cy 1, 60, .inl f))] H := hP
      have hD : va_D (wA [(am, .inr (12, [.ref aS, .ref aBf, .ref aAs, .ref aSv, .int iS, .ref aPa, .int (nI K), .int th, .ref aOu, .int (nI OM), .ref aTx, .int (nI LN), .int (nI x.1), .int (bI x.2), .int ea, .int fa, .ref aCo, .int (nI CM)])), (aTx, .inl (cy 1, 60, .inl f))]) [(am, .inr (12, [.ref aS, .ref aBf, .ref aAs, .ref aSv, .int iS, .ref aPa, .int (nI K), .int th, .ref aOu, .int (nI OM), .ref aTx, .int (nI LN), .int (nI x.1), .int 0, .int ea, .int fa, .ref aCo, .int (nI CM)])), (aTx, .inl (cy 1, 60, .inl f))] := hD
      refine lv_aload_n hxq hb dX8_letter_34 rfl (lv_at hl 1 rfl) ?_
      refine lv_dup hxq hb dX8_letter_35 rfl ?_
      refine va_get (D := G) (ci := 12) (v := .int (nI x.1)) (C := RX8) (T := TX8) (N := 18) hxq hb hts hi12 hown hK.1 hP 0 rfl rfl 12 (by decide) hf193 (fun _ h9 => h9) rfl dX8_letter_36 ?_
      refine lv_aload_n hxq hb dX8_letter_39 rfl (lv_at hl 1 rfl) ?_
      refine va_get (D := G) (ci := 12) (v := .int 0) (C := RX8) (T := TX8) (N := 18) hxq hb hts hi12 hown hK.1 hP 0 rfl rfl 13 (by decide) hf200 (fun _ h9 => h9) rfl dX8_letter_40 ?_
      refine lv_if_eq (tgt := 50) hxq hb dX8_letter_43 (by decide) (fun c_4 => ?_) (fun c_4 => ?_)
      · refine lv_iconst (v := 1) hxq hb dX8_letter_50 (by decide) ?_
        refine lv_iadd hxq hb dX8_letter_51 ?_
        refine lv_t0 (show (nI x.1) + 1 = nI (x.1 + 1) from (m_add rfl rfl)) ?_
        refine va_put (D := G) (ci := 12) (v := .int (nI (x.1 + 1))) (ty := .int) (C := RX8) (T := TX8) (N := 18) hxq hb hts hi12 tyX8 tyX8_ok nmX8 hown hK.1 hP hD hS 0 rfl rfl 12 (by decide) hf193 (fun _ h9 => h9) rfl (by decide +kernel) rfl rfl (Nat.le_of_ble_eq_true rfl) dX8_letter_52 (fun H locs hP hD hS => ?_)
        have hP : va_P G vwCl [(am, .inr (12, [.ref aS, .ref aBf, .ref aAs, .ref aSv, .int iS, .ref aPa, .int (nI K), .int th, .ref aOu, .int (nI OM), .ref aTx, .int (nI LN), .int (nI (x.1 + 1)), .int 0, .int ea, .int fa, .ref aCo, .int (nI CM)])), (aTx, .inl (cy 1, 60, .inl f))] H := hP
        have hD : va_D (wA [(am, .inr (12, [.ref aS, .ref aBf, .ref aAs, .ref aSv, .int iS, .ref aPa, .int (nI K), .int th, .ref aOu, .int (nI OM), .ref aTx, .int (nI LN), .int (nI x.1), .int (bI x.2), .int ea, .int fa, .ref aCo, .int (nI CM)])), (aTx, .inl (cy 1, 60, .inl f))]) [(am, .inr (12, [.ref aS, .ref aBf, .ref aAs, .ref aSv, .int iS, .ref aPa, .int (nI K), .int th, .ref aOu, .int (nI OM), .ref aTx, .int (nI LN), .int (nI (x.1 + 1)), .int 0, .int ea, .int fa, .ref aCo, .int (nI CM)])), (aTx, .inl (cy 1, 60, .inl f))] := hD
        refine lv_iload_n hxq hb dX8_letter_55 rfl (lv_at hl 0 rfl) ?_
        have e9 : ltX i f LN x = (x.1 + 1, x.2) := (if_neg (by rw [z_2]; decide)).trans (if_neg l9)
        have e8 : bI x.2 = 0 := bI_0 z_2
        exact wc_iret hxq hb hr hlocks (by rw [e9]; show va_P G vwCl [(am, .inr (12, [.ref aS, .ref aBf, .ref aAs, .ref aSv, .int iS, .ref aPa, .int (nI K), .int th, .ref aOu, .int (nI OM), .ref aTx, .int (nI LN), .int (nI (x.1 + 1)), .int (bI x.2), .int ea, .int fa, .ref aCo, .int (nI CM)])), (aTx, .inl (cy 1, 60, .inl f))] H; rw [e8]; exact hP) hS (if_neg (by rw [z_2]; decide)).symm dX8_letter_56
      · exact absurd c_4 (by decide)
    · have c_3' : (ixS i (pk f LN x)) < 0 := Int32.not_le.mp c_3
      have l9 : ixS i (pk f LN x) < 0 := Int32.not_le.mp c_3
      refine lv_iconst (v := 1) hxq hb dX8_letter_26 (by decide) ?_
      refine lv_goto (tgt := 31) hxq hb dX8_letter_27 (by decide) ?_
      refine va_put (D := G) (ci := 12) (v := .int 1) (ty := .boolean) (C := RX8) (T := TX8) (N := 18) hxq hb hts hi12 tyX8 tyX8_ok nmX8 hown hK.1 hP hD hS 0 rfl rfl 13 (by decide) hf200 (fun _ h9 => h9) rfl (by decide +kernel) rfl rfl (Nat.le_of_ble_eq_true rfl) dX8_letter_31 (fun H locs hP hD hS => ?_)
      have hP : va_P G vwCl [(am, .inr (12, [.ref aS, .ref aBf, .ref aAs, .ref aSv, .int iS, .ref aPa, .int (nI K), .int th, .ref aOu, .int (nI OM), .ref aTx, .int (nI LN), .int (nI x.1), .int 1, .int ea, .int fa, .ref aCo, .int (nI CM)])), (aTx, .inl (cy 1, 60, .inl f))] H := hP
      have hD : va_D (wA [(am, .inr (12, [.ref aS, .ref aBf, .ref aAs, .ref aSv, .int iS, .ref aPa, .int (nI K), .int th, .ref aOu, .int (nI OM), .ref aTx, .int (nI LN), .int (nI x.1), .int (bI x.2), .int ea, .int fa, .ref aCo, .int (nI CM)])), (aTx, .inl (cy 1, 60, .inl f))]) [(am, .inr (12, [.ref aS, .ref aBf, .ref aAs, .ref aSv, .int iS, .ref aPa, .int (nI K), .int th, .ref aOu, .int (nI OM), .ref aTx, .int (nI LN), .int (nI x.1), .int 1, .int ea, .int fa, .ref aCo, .int (nI CM)])), (aTx, .inl (cy 1, 60, .inl f))] := hD
      refine lv_aload_n hxq hb dX8_letter_34 rfl (lv_at hl 1 rfl) ?_
      refine lv_dup hxq hb dX8_letter_35 rfl ?_
      refine va_get (D := G) (ci := 12) (v := .int (nI x.1)) (C := RX8) (T := TX8) (N := 18) hxq hb hts hi12 hown hK.1 hP 0 rfl rfl 12 (by decide) hf193 (fun _ h9 => h9) rfl dX8_letter_36 ?_
      refine lv_aload_n hxq hb dX8_letter_39 rfl (lv_at hl 1 rfl) ?_
      refine va_get (D := G) (ci := 12) (v := .int 1) (C := RX8) (T := TX8) (N := 18) hxq hb hts hi12 hown hK.1 hP 0 rfl rfl 13 (by decide) hf200 (fun _ h9 => h9) rfl dX8_letter_40 ?_
      refine lv_if_eq (tgt := 50) hxq hb dX8_letter_43 (by decide) (fun c_5 => ?_) (fun c_5 => ?_)
      · exact absurd c_5 (by decide)
      · refine lv_iconst (v := 0) hxq hb dX8_letter_46 (by decide) ?_
        refine lv_goto (tgt := 51) hxq hb dX8_letter_47 (by decide) ?_
        refine lv_iadd hxq hb dX8_letter_51 ?_
        refine lv_t0 (show (nI x.1) + 0 = nI (x.1 + 0) from (m_add rfl rfl)) ?_
        refine va_put (D := G) (ci := 12) (v := .int (nI (x.1 + 0))) (ty := .int) (C := RX8) (T := TX8) (N := 18) hxq hb hts hi12 tyX8 tyX8_ok nmX8 hown hK.1 hP hD hS 0 rfl rfl 12 (by decide) hf193 (fun _ h9 => h9) rfl (by decide +kernel) rfl rfl (Nat.le_of_ble_eq_true rfl) dX8_letter_52 (fun H locs hP hD hS => ?_)
        have hP : va_P G vwCl [(am, .inr (12, [.ref aS, .ref aBf, .ref aAs, .ref aSv, .int iS, .ref aPa, .int (nI K), .int th, .ref aOu, .int (nI OM), .ref aTx, .int (nI LN), .int (nI (x.1 + 0)), .int 1, .int ea, .int fa, .ref aCo, .int (nI CM)])), (aTx, .inl (cy 1, 60, .inl f))] H := hP
        have hD : va_D (wA [(am, .inr (12, [.ref aS, .ref aBf, .ref aAs, .ref aSv, .int iS, .ref aPa, .int (nI K), .int th, .ref aOu, .int (nI OM), .ref aTx, .int (nI LN), .int (nI x.1), .int (bI x.2), .int ea, .int fa, .ref aCo, .int (nI CM)])), (aTx, .inl (cy 1, 60, .inl f))]) [(am, .inr (12, [.ref aS, .ref aBf, .ref aAs, .ref aSv, .int iS, .ref aPa, .int (nI K), .int th, .ref aOu, .int (nI OM), .ref aTx, .int (nI LN), .int (nI (x.1 + 0)), .int 1, .int ea, .int fa, .ref aCo, .int (nI CM)])), (aTx, .inl (cy 1, 60, .inl f))] := hD
        refine lv_iload_n hxq hb dX8_letter_55 rfl (lv_at hl 0 rfl) ?_
        have e9 : ltX i f LN x = (x.1, true) := (if_neg (by rw [z_2]; decide)).trans (if_pos l9)
        exact wc_iret hxq hb hr hlocks (by rw [e9]; exact hP) hS (if_neg (by rw [z_2]; decide)).symm dX8_letter_56
  · have z_6 : x.2 = true := bI_t c_1
    refine lv_iconst (v := (-1)) hxq hb dX8_letter_7 (by decide) ?_
    refine lv_goto (tgt := 20) hxq hb dX8_letter_8 (by decide) ?_
    refine lv_istore_n (lv' := [(2, .int (-1)), (0, .ref am), (1, .ref (kS i))]) hxq hb dX8_letter_20 rfl hl (by decide) rfl (fun ls hl => ?_)
    refine lv_aload_n hxq hb dX8_letter_21 rfl (lv_at hl 1 rfl) ?_
    refine lv_iload_n hxq hb dX8_letter_22 rfl (lv_at hl 0 rfl) ?_
    refine lv_if_ge (tgt := 30) hxq hb dX8_letter_23 (by decide) (fun c_7 => ?_) (fun c_7 => ?_)
    · exact absurd c_7 (by decide)
    · refine lv_iconst (v := 1) hxq hb dX8_letter_26 (by decide) ?_
      refine lv_goto (tgt := 31) hxq hb dX8_letter_27 (by decide) ?_
      refine va_put (D := G) (ci := 12) (v := .int 1) (ty := .boolean) (C := RX8) (T := TX8) (N := 18) hxq hb hts hi12 tyX8 tyX8_ok nmX8 hown hK.1 hP hD hS 0 rfl rfl 13 (by decide) hf200 (fun _ h9 => h9) rfl (by decide +kernel) rfl rfl (Nat.le_of_ble_eq_true rfl) dX8_letter_31 (fun H locs hP hD hS => ?_)
      have hP : va_P G vwCl [(am, .inr (12, [.ref aS, .ref aBf, .ref aAs, .ref aSv, .int iS, .ref aPa, .int (nI K), .int th, .ref aOu, .int (nI OM), .ref aTx, .int (nI LN), .int (nI x.1), .int 1, .int ea, .int fa, .ref aCo, .int (nI CM)])), (aTx, .inl (cy 1, 60, .inl f))] H := hP
      have hD : va_D (wA [(am, .inr (12, [.ref aS, .ref aBf, .ref aAs, .ref aSv, .int iS, .ref aPa, .int (nI K), .int th, .ref aOu, .int (nI OM), .ref aTx, .int (nI LN), .int (nI x.1), .int (bI x.2), .int ea, .int fa, .ref aCo, .int (nI CM)])), (aTx, .inl (cy 1, 60, .inl f))]) [(am, .inr (12, [.ref aS, .ref aBf, .ref aAs, .ref aSv, .int iS, .ref aPa, .int (nI K), .int th, .ref aOu, .int (nI OM), .ref aTx, .int (nI LN), .int (nI x.1), .int 1, .int ea, .int fa, .ref aCo, .int (nI CM)])), (aTx, .inl (cy 1, 60, .inl f))] := hD
      refine lv_aload_n hxq hb dX8_letter_34 rfl (lv_at hl 1 rfl) ?_
      refine lv_dup hxq hb dX8_letter_35 rfl ?_
      refine va_get (D := G) (ci := 12) (v := .int (nI x.1)) (C := RX8) (T := TX8) (N := 18) hxq hb hts hi12 hown hK.1 hP 0 rfl rfl 12 (by decide) hf193 (fun _ h9 => h9) rfl dX8_letter_36 ?_
      refine lv_aload_n hxq hb dX8_letter_39 rfl (lv_at hl 1 rfl) ?_
      refine va_get (D := G) (ci := 12) (v := .int 1) (C := RX8) (T := TX8) (N := 18) hxq hb hts hi12 hown hK.1 hP 0 rfl rfl 13 (by decide) hf200 (fun _ h9 => h9) rfl dX8_letter_40 ?_
      refine lv_if_eq (tgt := 50) hxq hb dX8_letter_43 (by decide) (fun c_8 => ?_) (fun c_8 => ?_)
      · exact absurd c_8 (by decide)
      · refine lv_iconst (v := 0) hxq hb dX8_letter_46 (by decide) ?_
        refine lv_goto (tgt := 51) hxq hb dX8_letter_47 (by decide) ?_
        refine lv_iadd hxq hb dX8_letter_51 ?_
        refine lv_t0 (show (nI x.1) + 0 = nI (x.1 + 0) from (m_add rfl rfl)) ?_
        refine va_put (D := G) (ci := 12) (v := .int (nI (x.1 + 0))) (ty := .int) (C := RX8) (T := TX8) (N := 18) hxq hb hts hi12 tyX8 tyX8_ok nmX8 hown hK.1 hP hD hS 0 rfl rfl 12 (by decide) hf193 (fun _ h9 => h9) rfl (by decide +kernel) rfl rfl (Nat.le_of_ble_eq_true rfl) dX8_letter_52 (fun H locs hP hD hS => ?_)
        have hP : va_P G vwCl [(am, .inr (12, [.ref aS, .ref aBf, .ref aAs, .ref aSv, .int iS, .ref aPa, .int (nI K), .int th, .ref aOu, .int (nI OM), .ref aTx, .int (nI LN), .int (nI (x.1 + 0)), .int 1, .int ea, .int fa, .ref aCo, .int (nI CM)])), (aTx, .inl (cy 1, 60, .inl f))] H := hP
        have hD : va_D (wA [(am, .inr (12, [.ref aS, .ref aBf, .ref aAs, .ref aSv, .int iS, .ref aPa, .int (nI K), .int th, .ref aOu, .int (nI OM), .ref aTx, .int (nI LN), .int (nI x.1), .int (bI x.2), .int ea, .int fa, .ref aCo, .int (nI CM)])), (aTx, .inl (cy 1, 60, .inl f))]) [(am, .inr (12, [.ref aS, .ref aBf, .ref aAs, .ref aSv, .int iS, .ref aPa, .int (nI K), .int th, .ref aOu, .int (nI OM), .ref aTx, .int (nI LN), .int (nI (x.1 + 0)), .int 1, .int ea, .int fa, .ref aCo, .int (nI CM)])), (aTx, .inl (cy 1, 60, .inl f))] := hD
        refine lv_iload_n hxq hb dX8_letter_55 rfl (lv_at hl 0 rfl) ?_
        have e9 : ltX i f LN x = (x.1, true) := if_pos z_6
        exact wc_iret hxq hb hr hlocks (by rw [e9]; exact hP) hS (if_pos z_6).symm dX8_letter_56

set_option maxRecDepth 100000 in
set_option maxHeartbeats 1000000 in
theorem c_X8_kind (l : Launch) (G : va_G) (cy : Nat → ClassId) (am aS aBf aAs aSv aPa aOu aTx aCo K OM LN CM : Nat) (iS th ea fa : Int32) (x : Lx) (f : Nat → Int32) (hL : LN ≤ 60) (hx : x.1 ≤ LN) (hcz : czN 60 f) (hok : ∀ j, j < LN → sgOK (f j)) (hw0 : x.2 = false) : RO l yX8_kind wsX8_kind { frames := 1, cells := 0, slots := 0, locals := 21 } (PB G cy [(am, .inr (12, [.ref aS, .ref aBf, .ref aAs, .ref aSv, .int iS, .ref aPa, .int (nI K), .int th, .ref aOu, .int (nI OM), .ref aTx, .int (nI LN), .int (nI x.1), .int (bI x.2), .int ea, .int fa, .ref aCo, .int (nI CM)])), (aTx, .inl (cy 1, 60, .inl f))]) [.ref am] (some (.int (kdM f LN x))) := by
  refine RO.ofW (cc := cX8_kind) (maxL := 3) (ret := (some .char)) (by decide) rfl (Nat.le_of_ble_eq_true rfl) ?_
  intro p e s m below meth cq S9 hr hlocks hPB ls hl
  obtain ⟨hxq, hb, hml, hown, hts⟩ := id S9
  obtain ⟨hP, hK⟩ := hPB
  have hl : lv_has ls 3 [(0, .ref am)] := hl
  refine lv_aload_n hxq hb dX8_kind_0 rfl (lv_at hl 0 rfl) ?_
  refine lv_iconst (v := 0) hxq hb dX8_kind_1 (by decide) ?_
  refine c_roVi S9 (c_X8_behind0 l G cy am aS aBf aAs aSv aPa aOu aTx aCo K OM LN CM iS th ea fa x f hL hx hcz hok hw0) (cwV 1 hts gX8_kind_X8_behind rfl rfl rfl (by decide +kernel) ⟨Nat.le_of_ble_eq_true rfl, Nat.le_of_ble_eq_true rfl⟩) PB.blind (va_recv hK.1 hP (ci := 12) (q0 := 0) rfl rfl) (PB.at hK (m_Ppart hP [0, 1] rfl)) rfl hl.1 rfl (Nat.le_of_ble_eq_true rfl) ⟨Nat.zero_le _, Nat.zero_le _⟩ dX8_kind_2 ?_
  refine lv_istore_n (lv' := [(1, .int (pk f LN x)), (0, .ref am)]) hxq hb dX8_kind_5 rfl hl (by decide) rfl (fun ls hl => ?_)
  refine lv_aload_n hxq hb dX8_kind_6 rfl (lv_at hl 1 rfl) ?_
  refine lv_iconst (v := 1) hxq hb dX8_kind_7 (by decide) ?_
  refine c_roVi S9 (c_X8_behind1 l G cy am aS aBf aAs aSv aPa aOu aTx aCo K OM LN CM iS th ea fa x f hL hx hcz hok) (cwV 1 hts gX8_kind_X8_behind rfl rfl rfl (by decide +kernel) ⟨Nat.le_of_ble_eq_true rfl, Nat.le_of_ble_eq_true rfl⟩) PB.blind (va_recv hK.1 hP (ci := 12) (q0 := 0) rfl rfl) (PB.at hK (m_Ppart hP [0, 1] rfl)) rfl hl.1 rfl (Nat.le_of_ble_eq_true rfl) ⟨Nat.zero_le _, Nat.zero_le _⟩ dX8_kind_8 ?_
  refine lv_istore_n (lv' := [(2, .int (pk1 f LN x)), (1, .int (pk f LN x)), (0, .ref am)]) hxq hb dX8_kind_11 rfl hl (by decide) rfl (fun ls hl => ?_)
  refine lv_iload_n hxq hb dX8_kind_12 rfl (lv_at hl 1 rfl) ?_
  refine lv_bipush (v := 116) hxq hb dX8_kind_13 (by decide) ?_
  refine lv_icmp_ne (tgt := 34) hxq hb dX8_kind_15 (by decide) (fun c_1 => ?_) (fun c_1 => ?_)
  · refine lv_iload_n hxq hb dX8_kind_34 rfl (lv_at hl 1 rfl) ?_
    refine lv_bipush (v := 112) hxq hb dX8_kind_35 (by decide) ?_
    refine lv_icmp_ne (tgt := 56) hxq hb dX8_kind_37 (by decide) (fun c_2 => ?_) (fun c_2 => ?_)
    · refine lv_iload_n hxq hb dX8_kind_56 rfl (lv_at hl 1 rfl) ?_
      exact ro_zret hxq hb hr hlocks (congrArg Value.int (kdM_c hcz hL)) (by unfold kdM; simp [c_1, c_2]) dX8_kind_57
    · refine lv_iload_n hxq hb dX8_kind_40 rfl (lv_at hl 0 rfl) ?_
      refine lv_bipush (v := 111) hxq hb dX8_kind_41 (by decide) ?_
      refine lv_icmp_ne (tgt := 51) hxq hb dX8_kind_43 (by decide) (fun c_3 => ?_) (fun c_3 => ?_)
      · refine lv_bipush (v := 112) hxq hb dX8_kind_51 (by decide) ?_
        refine lv_goto (tgt := 57) hxq hb dX8_kind_53 (by decide) ?_
        exact ro_zret hxq hb hr hlocks (congrArg Value.int (kdM_c hcz hL)) (by unfold kdM; simp [c_1, c_2, c_3]) dX8_kind_57
      · refine lv_bipush (v := 111) hxq hb dX8_kind_46 (by decide) ?_
        refine lv_goto (tgt := 57) hxq hb dX8_kind_48 (by decide) ?_
        exact ro_zret hxq hb hr hlocks (congrArg Value.int (kdM_c hcz hL)) (by unfold kdM; simp [c_1, c_2, c_3]) dX8_kind_57
  · refine lv_iload_n hxq hb dX8_kind_18 rfl (lv_at hl 0 rfl) ?_
    refine lv_bipush (v := 97) hxq hb dX8_kind_19 (by decide) ?_
    refine lv_icmp_ne (tgt := 29) hxq hb dX8_kind_21 (by decide) (fun c_4 => ?_) (fun c_4 => ?_)
    · refine lv_bipush (v := 107) hxq hb dX8_kind_29 (by decide) ?_
      refine lv_goto (tgt := 57) hxq hb dX8_kind_31 (by decide) ?_
      exact ro_zret hxq hb hr hlocks (congrArg Value.int (kdM_c hcz hL)) (by unfold kdM; simp [c_1, c_4]) dX8_kind_57
    · refine lv_bipush (v := 97) hxq hb dX8_kind_24 (by decide) ?_
      refine lv_goto (tgt := 57) hxq hb dX8_kind_26 (by decide) ?_
      exact ro_zret hxq hb hr hlocks (congrArg Value.int (kdM_c hcz hL)) (by unfold kdM; simp [c_1, c_4]) dX8_kind_57
