/-! the cases of the law, 2 -/
set_option maxRecDepth 100000 in
set_option maxHeartbeats 4000000 in
theorem case_28 {p : Program} {l : Launch} {e : Env} {s : State} {m : MethodId} {below : List Frame} {meth : Method} {cq : Code} {G : va_G} {cy : Nat → ClassId} {kS vS : Nat → Nat} {A : Nat → Prop} {a : LA} {b L q : Nat} {xs : Nat → Int32} {Q : State → Prop} {n0 cells slots : Nat} (hC : LC l p s m meth cq G cy kS vS A b L xs) (hq : 4 * q + 4 ≤ L) (hn0 : n0 < 1000000) (hc1 : cells + 1 ≤ room_1.cells) (hs1 : slots + 6 ≤ room_1.slots) (kk : LGo p l e s m below meth cq G cy A a b q Q (n0 + 300) (cells + 1) (slots + 6) 2890) : LGo p l e s m below meth cq G cy A a b q Q n0 cells slots 1806 := by
  intro s9 H locs ls hI hP hD hS hl
  obtain ⟨hx, hb, hml, hown, hts⟩ := id hC.S9
  have hL9 := hC.hL
  have hc0 : cells + 0 ≤ room_1.cells := Nat.le_of_succ_le hc1
  have hcn : cells ≤ room_1.cells := Nat.le_of_succ_le hc1
  have hs0 : slots + 0 ≤ room_1.slots := Nat.le_trans (Nat.le_add_right slots 6) hs1
  have hsn : slots ≤ room_1.slots := Nat.le_trans (Nat.le_add_right slots 6) hs1
  have ho := hI.1.1
  have hN0 := ho.1
  have hM0 := ho.2.1
  have hE0 := ho.2.2.1
  have hnx := hI.2.2.2.2.1
  have hct := hI.2.2.2.2.2.1
  by_cases hF : inI (xs (4 * q + 1)) (nI (nD s9.σ)) = true
  · obtain ⟨j, hj, e1⟩ := ix_of (by omega) hF
    obtain ⟨S9, eS⟩ : ∃ z : LwS, z = (LwS.mk s9.σ s9.υ s9.ς s9.hs s9.ep s9.fc s9.ml 0 s9.nx s9.ct s9.nb s9.n s9.LN s9.CM s9.ρ s9.x s9.x0 s9.f s9.gk s9.g1 s9.g2 s9.g3 s9.fb s9.fB s9.fA s9.fV s9.fP s9.fO s9.g (fun _ => (bD s9.σ j).toInt64) s9.fd) := ⟨_, rfl⟩
    refine lv_aload_n hx hb dL_law_1806 rfl (lv_at hl 4 rfl) ?_
    refine lv_aload_n hx hb dL_law_1807 rfl (lv_at hl 5 rfl) ?_
    refine lv_iload hx hb dL_law_1808 (lv_at hl 0 rfl) ?_
    refine lv_iconst (v := 1) hx hb dL_law_1810 (by decide) ?_
    refine lv_iadd hx hb dL_law_1811 ?_
    refine m_sld (v := nI j) hx hb hC.hX hC.hbl hC.hbA hS (k := 4 * q + 1) (m_add rfl rfl) (by omega) hC.hL e1 dL_law_1812 ?_
    refine lv_aload_n hx hb dL_law_1813 rfl (lv_at hl 2 rfl) ?_
    refine lw_w (mc := 0) (ms := 0) (Wc := (LCh cy a s9 s9)) (Wn := (LCh cy a S9 s9)) hC (w_observedBath_ok l G cy kS vS a.aX a.na a.tr a.sn s9.hs a.hi a.sc s9.ep s9.fc a.ob s9.σ j a.oA s9.fo hI.1.1 hj) (vx_cwSW 3 hC.S9.2.2.2.2 gL_law_L_observedBath rfl rfl rfl (by decide +kernel) ⟨Nat.le_of_ble_eq_true rfl, Nat.le_of_ble_eq_true rfl⟩) [0, 1, 24] rfl (by decide) (SameL.cons SameA.rf (SameL.cons SameA.rf (SameL.cons SameA.one SameL.nil))) (by subst eS; rfl) hP hD hS rfl hl.1 rfl (Nat.le_of_ble_eq_true rfl) ⟨hc0, hs0⟩ dL_law_1814 (fun H locs hP hD hS => ?_)
    refine lv_istore (lv' := [(6, .int 0), (5, .int (nI (4 * q))), (4, .ref a.oD), (3, .ref a.oA), (2, .ref a.am), (1, .ref a.aX), (0, .ref b)]) hx hb dL_law_1817 hl (by decide) rfl (fun ls hl => ?_)
    refine lv_aload_n hx hb dL_law_1819 rfl (lv_at hl 4 rfl) ?_
    refine lv_aload_n hx hb dL_law_1820 rfl (lv_at hl 6 rfl) ?_
    refine lv_iload hx hb dL_law_1821 (lv_at hl 1 rfl) ?_
    refine lv_iconst (v := 1) hx hb dL_law_1823 (by decide) ?_
    refine lv_iadd hx hb dL_law_1824 ?_
    refine m_sld (v := nI j) hx hb hC.hX hC.hbl hC.hbA hS (k := 4 * q + 1) (m_add rfl rfl) (by omega) hC.hL e1 dL_law_1825 ?_
    refine lw_m (s1 := S9) (t1 := s9) (Wn := (LCh cy a S9 S9)) hC (c_X8_observedBath_ok l G cy a.am a.aS a.aBf a.aAs a.aSv a.aPa a.aOu a.aTx a.aCo s9.ct s9.nb s9.LN ((s9.x0).1) s9.CM s9.hs s9.th (bI (s9.x0).2) s9.ep s9.fc s9.σ j hI.1.1 hj) (cwV 1 hC.S9.2.2.2.2 gL_law_X8_observedBath rfl rfl rfl (by decide +kernel) ⟨Nat.le_of_ble_eq_true rfl, Nat.le_of_ble_eq_true rfl⟩) [15, 16] rfl (by decide) (SameR.cons (SameR.cons SameR.nil)) (by subst eS; rfl) hP hD hS rfl hl.1 rfl (Nat.le_of_ble_eq_true rfl) ⟨hcn, hsn⟩ dL_law_1826 (fun H locs hP hD hS => ?_)
    refine lv_istore (lv' := [(7, .int (bD s9.σ j)), (6, .int 0), (5, .int (nI (4 * q))), (4, .ref a.oD), (3, .ref a.oA), (2, .ref a.am), (1, .ref a.aX), (0, .ref b)]) hx hb dL_law_1829 hl (by decide) rfl (fun ls hl => ?_)
    refine lv_aload_n hx hb dL_law_1831 rfl (lv_at hl 5 rfl) ?_
    refine lw_thrown (s1 := S9) (t1 := S9) (k := 0) hC hP (by subst eS; rfl) hl.1 (Nat.le_of_ble_eq_true rfl) ⟨hcn, hsn⟩ dL_law_1832 ?_
    refine lv_iload hx hb dL_law_1835 (lv_at hl 1 rfl) ?_
    refine lv_icmp_eq (tgt := 1842) hx hb dL_law_1837 (by decide) (fun c_1837 => ?_) (fun c_1837 => ?_)
    rotate_left
    · exact absurd c_1837 (by decide)
    refine lv_iload hx hb dL_law_1842 (lv_at hl 1 rfl) ?_
    refine lv_if_ne (tgt := 1859) hx hb dL_law_1844 (by decide) (fun c_1844 => ?_) (fun c_1844 => ?_)
    · exact absurd c_1844 (by decide)
    refine lv_aload_n hx hb dL_law_1847 rfl (lv_at hl 4 rfl) ?_
    refine lv_iconst (v := 0) hx hb dL_law_1848 (by decide) ?_
    refine lw_ldL (s1 := S9) (t1 := S9) (x := (bD s9.σ j).toInt64) hC hP (by subst eS; rfl) dL_law_1849 ?_
    refine lv_iload hx hb dL_law_1850 (lv_at hl 0 rfl) ?_
    refine lv_i2l hx hb dL_law_1852 rfl ?_
    refine m_lcmp0 hx hb rfl dL_law_1853 ?_
    refine lv_if_eq (tgt := 1859) hx hb dL_law_1854 (by decide) (fun c_1854 => ?_) (fun c_1854 => ?_)
    rotate_left
    · exact absurd c_1854 (by decide)
    refine lv_goto (tgt := 2890) hx hb dL_law_1859 (by decide) ?_
    refine W.widen (k := cells + 1) (n := slots + 6) (by omega) (by omega) ?_
    exact kk S9 H locs ls (LI.of (LI.mono hI (by omega)) (by subst eS; rfl) (by subst eS; rfl) (by subst eS; rfl) (by subst eS; rfl) (by subst eS; rfl) (by subst eS; rfl) (by subst eS; rfl) (by subst eS; rfl) (by subst eS; rfl) (by subst eS; rfl) (by subst eS; rfl) (by subst eS; rfl) (by subst eS; rfl) (by subst eS; rfl) (by subst eS; rfl)) hP hD hS (lv_sub hl [2, 3, 4, 5, 6, 7] rfl)
  · obtain ⟨S9, eS⟩ : ∃ z : LwS, z = (LwS.mk s9.σ s9.υ s9.ς s9.hs s9.ep s9.fc s9.ml 1 s9.nx s9.ct s9.nb s9.n s9.LN s9.CM s9.ρ s9.x s9.x0 s9.f s9.gk s9.g1 s9.g2 s9.g3 s9.fb s9.fB s9.fA s9.fV s9.fP s9.fO s9.g s9.fo s9.fd) := ⟨_, rfl⟩
    refine lv_aload_n hx hb dL_law_1806 rfl (lv_at hl 4 rfl) ?_
    refine lv_aload_n hx hb dL_law_1807 rfl (lv_at hl 5 rfl) ?_
    refine lv_iload hx hb dL_law_1808 (lv_at hl 0 rfl) ?_
    refine lv_iconst (v := 1) hx hb dL_law_1810 (by decide) ?_
    refine lv_iadd hx hb dL_law_1811 ?_
    refine m_sld (v := xs (4 * q + 1)) hx hb hC.hX hC.hbl hC.hbA hS (k := 4 * q + 1) (m_add rfl rfl) (by omega) hC.hL rfl dL_law_1812 ?_
    refine lv_aload_n hx hb dL_law_1813 rfl (lv_at hl 2 rfl) ?_
    refine lw_w (mc := 1) (ms := 6) (Wc := (LCh cy a s9 s9)) (Wn := (LCh cy a S9 s9)) hC (w_observedBath_t l G cy kS vS a.aX a.na a.tr a.sn s9.hs a.hi a.sc s9.ep s9.fc a.ob s9.σ (xs (4 * q + 1)) a.oA s9.fo hC.hl9 hI.1.1 hF) (vx_cwSW 3 hC.S9.2.2.2.2 gL_law_L_observedBath rfl rfl rfl (by decide +kernel) ⟨Nat.le_of_ble_eq_true rfl, Nat.le_of_ble_eq_true rfl⟩) [0, 1, 24] rfl (by decide) (SameL.cons SameA.rf (SameL.cons SameA.rf (SameL.cons SameA.rf SameL.nil))) (by subst eS; rfl) hP hD hS rfl hl.1 rfl (Nat.le_of_ble_eq_true rfl) ⟨hc1, hs1⟩ dL_law_1814 (fun H locs hP hD hS => ?_)
    refine lv_istore (lv' := [(6, .int 1), (5, .int (nI (4 * q))), (4, .ref a.oD), (3, .ref a.oA), (2, .ref a.am), (1, .ref a.aX), (0, .ref b)]) hx hb dL_law_1817 hl (by decide) rfl (fun ls hl => ?_)
    refine lv_aload_n hx hb dL_law_1819 rfl (lv_at hl 4 rfl) ?_
    refine lv_aload_n hx hb dL_law_1820 rfl (lv_at hl 6 rfl) ?_
    refine lv_iload hx hb dL_law_1821 (lv_at hl 1 rfl) ?_
    refine lv_iconst (v := 1) hx hb dL_law_1823 (by decide) ?_
    refine lv_iadd hx hb dL_law_1824 ?_
    refine m_sld (v := xs (4 * q + 1)) hx hb hC.hX hC.hbl hC.hbA hS (k := 4 * q + 1) (m_add rfl rfl) (by omega) hC.hL rfl dL_law_1825 ?_
    refine lw_m (s1 := S9) (t1 := s9) (Wn := (LCh cy a S9 S9)) hC (c_X8_observedBath_no l G cy a.am a.aS a.aBf a.aAs a.aSv a.aPa a.aOu a.aTx a.aCo s9.ct s9.nb s9.LN ((s9.x0).1) s9.CM s9.hs s9.th (bI (s9.x0).2) s9.ep s9.fc s9.σ (xs (4 * q + 1)) hI.1.1 hF) (cwV 1 hC.S9.2.2.2.2 gL_law_X8_observedBath rfl rfl rfl (by decide +kernel) ⟨Nat.le_of_ble_eq_true rfl, Nat.le_of_ble_eq_true rfl⟩) [15, 16] rfl (by decide) (SameR.cons (SameR.cons SameR.nil)) (by subst eS; rfl) hP hD hS rfl hl.1 rfl (Nat.le_of_ble_eq_true rfl) ⟨hc1, hs1⟩ dL_law_1826 (fun H locs hP hD hS => ?_)
    refine lv_istore (lv' := [(7, .int 0), (6, .int 1), (5, .int (nI (4 * q))), (4, .ref a.oD), (3, .ref a.oA), (2, .ref a.am), (1, .ref a.aX), (0, .ref b)]) hx hb dL_law_1829 hl (by decide) rfl (fun ls hl => ?_)
    refine lv_aload_n hx hb dL_law_1831 rfl (lv_at hl 5 rfl) ?_
    refine lw_thrown (s1 := S9) (t1 := S9) (k := 1) hC hP (by subst eS; rfl) hl.1 (Nat.le_of_ble_eq_true rfl) ⟨hc1, hs1⟩ dL_law_1832 ?_
    refine lv_iload hx hb dL_law_1835 (lv_at hl 1 rfl) ?_
    refine lv_icmp_eq (tgt := 1842) hx hb dL_law_1837 (by decide) (fun c_1837 => ?_) (fun c_1837 => ?_)
    rotate_left
    · exact absurd c_1837 (by decide)
    refine lv_iload hx hb dL_law_1842 (lv_at hl 1 rfl) ?_
    refine lv_if_ne (tgt := 1859) hx hb dL_law_1844 (by decide) (fun c_1844 => ?_) (fun c_1844 => ?_)
    rotate_left
    · exact absurd c_1844 (by decide)
    refine lv_goto (tgt := 2890) hx hb dL_law_1859 (by decide) ?_
    exact kk S9 H locs ls (LI.of (LI.mono hI (by omega)) (by subst eS; rfl) (by subst eS; rfl) (by subst eS; rfl) (by subst eS; rfl) (by subst eS; rfl) (by subst eS; rfl) (by subst eS; rfl) (by subst eS; rfl) (by subst eS; rfl) (by subst eS; rfl) (by subst eS; rfl) (by subst eS; rfl) (by subst eS; rfl) (by subst eS; rfl) (by subst eS; rfl)) hP hD hS (lv_sub hl [2, 3, 4, 5, 6, 7] rfl)

set_option maxRecDepth 100000 in
set_option maxHeartbeats 4000000 in
theorem case_29 {p : Program} {l : Launch} {e : Env} {s : State} {m : MethodId} {below : List Frame} {meth : Method} {cq : Code} {G : va_G} {cy : Nat → ClassId} {kS vS : Nat → Nat} {A : Nat → Prop} {a : LA} {b L q : Nat} {xs : Nat → Int32} {Q : State → Prop} {n0 cells slots : Nat} (hC : LC l p s m meth cq G cy kS vS A b L xs) (hq : 4 * q + 4 ≤ L) (hn0 : n0 < 1000000) (hc1 : cells + 1 ≤ room_1.cells) (hs1 : slots + 6 ≤ room_1.slots) (kk : LGo p l e s m below meth cq G cy A a b q Q (n0 + 300) (cells + 1) (slots + 6) 2890) : LGo p l e s m below meth cq G cy A a b q Q n0 cells slots 1862 := by
  intro s9 H locs ls hI hP hD hS hl
  obtain ⟨hx, hb, hml, hown, hts⟩ := id hC.S9
  have hL9 := hC.hL
  have hc0 : cells + 0 ≤ room_1.cells := Nat.le_of_succ_le hc1
  have hcn : cells ≤ room_1.cells := Nat.le_of_succ_le hc1
  have hs0 : slots + 0 ≤ room_1.slots := Nat.le_trans (Nat.le_add_right slots 6) hs1
  have hsn : slots ≤ room_1.slots := Nat.le_trans (Nat.le_add_right slots 6) hs1
  have ho := hI.1.1
  have hN0 := ho.1
  have hM0 := ho.2.1
  have hE0 := ho.2.2.1
  have hnx := hI.2.2.2.2.1
  have hct := hI.2.2.2.2.2.1
  by_cases hF : inI (xs (4 * q + 1)) (nI (nD s9.σ)) = true
  · obtain ⟨j, hj, e1⟩ := ix_of (by omega) hF
    obtain ⟨S9, eS⟩ : ∃ z : LwS, z = (LwS.mk s9.σ s9.υ s9.ς s9.hs s9.ep s9.fc s9.ml 0 s9.nx s9.ct s9.nb s9.n s9.LN s9.CM s9.ρ s9.x s9.x0 s9.f s9.gk s9.g1 s9.g2 s9.g3 s9.fb s9.fB s9.fA s9.fV s9.fP s9.fO s9.g (fun _ => (lD s9.σ j).toInt64) s9.fd) := ⟨_, rfl⟩
    refine lv_aload_n hx hb dL_law_1862 rfl (lv_at hl 4 rfl) ?_
    refine lv_aload_n hx hb dL_law_1863 rfl (lv_at hl 5 rfl) ?_
    refine lv_iload hx hb dL_law_1864 (lv_at hl 0 rfl) ?_
    refine lv_iconst (v := 1) hx hb dL_law_1866 (by decide) ?_
    refine lv_iadd hx hb dL_law_1867 ?_
    refine m_sld (v := nI j) hx hb hC.hX hC.hbl hC.hbA hS (k := 4 * q + 1) (m_add rfl rfl) (by omega) hC.hL e1 dL_law_1868 ?_
    refine lv_aload_n hx hb dL_law_1869 rfl (lv_at hl 2 rfl) ?_
    refine lw_w (mc := 0) (ms := 0) (Wc := (LCh cy a s9 s9)) (Wn := (LCh cy a S9 s9)) hC (w_lowerBound_ok l G cy kS vS a.aX a.na a.tr a.sn s9.hs a.hi a.sc s9.ep s9.fc a.ob s9.σ j a.oA s9.fo hI.1.1 hj) (vx_cwSW 3 hC.S9.2.2.2.2 gL_law_L_lowerBound rfl rfl rfl (by decide +kernel) ⟨Nat.le_of_ble_eq_true rfl, Nat.le_of_ble_eq_true rfl⟩) [0, 1, 24] rfl (by decide) (SameL.cons SameA.rf (SameL.cons SameA.rf (SameL.cons SameA.one SameL.nil))) (by subst eS; rfl) hP hD hS rfl hl.1 rfl (Nat.le_of_ble_eq_true rfl) ⟨hc0, hs0⟩ dL_law_1870 (fun H locs hP hD hS => ?_)
    refine lv_istore (lv' := [(6, .int 0), (5, .int (nI (4 * q))), (4, .ref a.oD), (3, .ref a.oA), (2, .ref a.am), (1, .ref a.aX), (0, .ref b)]) hx hb dL_law_1873 hl (by decide) rfl (fun ls hl => ?_)
    refine lv_aload_n hx hb dL_law_1875 rfl (lv_at hl 4 rfl) ?_
    refine lv_aload_n hx hb dL_law_1876 rfl (lv_at hl 6 rfl) ?_
    refine lv_iload hx hb dL_law_1877 (lv_at hl 1 rfl) ?_
    refine lv_iconst (v := 1) hx hb dL_law_1879 (by decide) ?_
    refine lv_iadd hx hb dL_law_1880 ?_
    refine m_sld (v := nI j) hx hb hC.hX hC.hbl hC.hbA hS (k := 4 * q + 1) (m_add rfl rfl) (by omega) hC.hL e1 dL_law_1881 ?_
    refine lw_m (s1 := S9) (t1 := s9) (Wn := (LCh cy a S9 S9)) hC (c_X8_lowerBound_ok l G cy a.am a.aS a.aBf a.aAs a.aSv a.aPa a.aOu a.aTx a.aCo s9.ct s9.nb s9.LN ((s9.x0).1) s9.CM s9.hs s9.th (bI (s9.x0).2) s9.ep s9.fc s9.σ j hI.1.1 hj) (cwV 1 hC.S9.2.2.2.2 gL_law_X8_lowerBound rfl rfl rfl (by decide +kernel) ⟨Nat.le_of_ble_eq_true rfl, Nat.le_of_ble_eq_true rfl⟩) [15, 16] rfl (by decide) (SameR.cons (SameR.cons SameR.nil)) (by subst eS; rfl) hP hD hS rfl hl.1 rfl (Nat.le_of_ble_eq_true rfl) ⟨hcn, hsn⟩ dL_law_1882 (fun H locs hP hD hS => ?_)
    refine lv_istore (lv' := [(7, .int (lD s9.σ j)), (6, .int 0), (5, .int (nI (4 * q))), (4, .ref a.oD), (3, .ref a.oA), (2, .ref a.am), (1, .ref a.aX), (0, .ref b)]) hx hb dL_law_1885 hl (by decide) rfl (fun ls hl => ?_)
    refine lv_aload_n hx hb dL_law_1887 rfl (lv_at hl 5 rfl) ?_
    refine lw_thrown (s1 := S9) (t1 := S9) (k := 0) hC hP (by subst eS; rfl) hl.1 (Nat.le_of_ble_eq_true rfl) ⟨hcn, hsn⟩ dL_law_1888 ?_
    refine lv_iload hx hb dL_law_1891 (lv_at hl 1 rfl) ?_
    refine lv_icmp_eq (tgt := 1898) hx hb dL_law_1893 (by decide) (fun c_1893 => ?_) (fun c_1893 => ?_)
    rotate_left
    · exact absurd c_1893 (by decide)
    refine lv_iload hx hb dL_law_1898 (lv_at hl 1 rfl) ?_
    refine lv_if_ne (tgt := 1915) hx hb dL_law_1900 (by decide) (fun c_1900 => ?_) (fun c_1900 => ?_)
    · exact absurd c_1900 (by decide)
    refine lv_aload_n hx hb dL_law_1903 rfl (lv_at hl 4 rfl) ?_
    refine lv_iconst (v := 0) hx hb dL_law_1904 (by decide) ?_
    refine lw_ldL (s1 := S9) (t1 := S9) (x := (lD s9.σ j).toInt64) hC hP (by subst eS; rfl) dL_law_1905 ?_
    refine lv_iload hx hb dL_law_1906 (lv_at hl 0 rfl) ?_
    refine lv_i2l hx hb dL_law_1908 rfl ?_
    refine m_lcmp0 hx hb rfl dL_law_1909 ?_
    refine lv_if_eq (tgt := 1915) hx hb dL_law_1910 (by decide) (fun c_1910 => ?_) (fun c_1910 => ?_)
    rotate_left
    · exact absurd c_1910 (by decide)
    refine lv_goto (tgt := 2890) hx hb dL_law_1915 (by decide) ?_
    refine W.widen (k := cells + 1) (n := slots + 6) (by omega) (by omega) ?_
    exact kk S9 H locs ls (LI.of (LI.mono hI (by omega)) (by subst eS; rfl) (by subst eS; rfl) (by subst eS; rfl) (by subst eS; rfl) (by subst eS; rfl) (by subst eS; rfl) (by subst eS; rfl) (by subst eS; rfl) (by subst eS; rfl) (by subst eS; rfl) (by subst eS; rfl) (by subst eS; rfl) (by subst eS; rfl) (by subst eS; rfl) (by subst eS; rfl)) hP hD hS (lv_sub hl [2, 3, 4, 5, 6, 7] rfl)
  · obtain ⟨S9, eS⟩ : ∃ z : LwS, z = (LwS.mk s9.σ s9.υ s9.ς s9.hs s9.ep s9.fc s9.ml 1 s9.nx s9.ct s9.nb s9.n s9.LN s9.CM s9.ρ s9.x s9.x0 s9.f s9.gk s9.g1 s9.g2 s9.g3 s9.fb s9.fB s9.fA s9.fV s9.fP s9.fO s9.g s9.fo s9.fd) := ⟨_, rfl⟩
    refine lv_aload_n hx hb dL_law_1862 rfl (lv_at hl 4 rfl) ?_
    refine lv_aload_n hx hb dL_law_1863 rfl (lv_at hl 5 rfl) ?_
    refine lv_iload hx hb dL_law_1864 (lv_at hl 0 rfl) ?_
    refine lv_iconst (v := 1) hx hb dL_law_1866 (by decide) ?_
    refine lv_iadd hx hb dL_law_1867 ?_
    refine m_sld (v := xs (4 * q + 1)) hx hb hC.hX hC.hbl hC.hbA hS (k := 4 * q + 1) (m_add rfl rfl) (by omega) hC.hL rfl dL_law_1868 ?_
    refine lv_aload_n hx hb dL_law_1869 rfl (lv_at hl 2 rfl) ?_
    refine lw_w (mc := 1) (ms := 6) (Wc := (LCh cy a s9 s9)) (Wn := (LCh cy a S9 s9)) hC (w_lowerBound_t l G cy kS vS a.aX a.na a.tr a.sn s9.hs a.hi a.sc s9.ep s9.fc a.ob s9.σ (xs (4 * q + 1)) a.oA s9.fo hC.hl9 hI.1.1 hF) (vx_cwSW 3 hC.S9.2.2.2.2 gL_law_L_lowerBound rfl rfl rfl (by decide +kernel) ⟨Nat.le_of_ble_eq_true rfl, Nat.le_of_ble_eq_true rfl⟩) [0, 1, 24] rfl (by decide) (SameL.cons SameA.rf (SameL.cons SameA.rf (SameL.cons SameA.rf SameL.nil))) (by subst eS; rfl) hP hD hS rfl hl.1 rfl (Nat.le_of_ble_eq_true rfl) ⟨hc1, hs1⟩ dL_law_1870 (fun H locs hP hD hS => ?_)
    refine lv_istore (lv' := [(6, .int 1), (5, .int (nI (4 * q))), (4, .ref a.oD), (3, .ref a.oA), (2, .ref a.am), (1, .ref a.aX), (0, .ref b)]) hx hb dL_law_1873 hl (by decide) rfl (fun ls hl => ?_)
    refine lv_aload_n hx hb dL_law_1875 rfl (lv_at hl 4 rfl) ?_
    refine lv_aload_n hx hb dL_law_1876 rfl (lv_at hl 6 rfl) ?_
    refine lv_iload hx hb dL_law_1877 (lv_at hl 1 rfl) ?_
    refine lv_iconst (v := 1) hx hb dL_law_1879 (by decide) ?_
    refine lv_iadd hx hb dL_law_1880 ?_
    refine m_sld (v := xs (4 * q + 1)) hx hb hC.hX hC.hbl hC.hbA hS (k := 4 * q + 1) (m_add rfl rfl) (by omega) hC.hL rfl dL_law_1881 ?_
    refine lw_m (s1 := S9) (t1 := s9) (Wn := (LCh cy a S9 S9)) hC (c_X8_lowerBound_no l G cy a.am a.aS a.aBf a.aAs a.aSv a.aPa a.aOu a.aTx a.aCo s9.ct s9.nb s9.LN ((s9.x0).1) s9.CM s9.hs s9.th (bI (s9.x0).2) s9.ep s9.fc s9.σ (xs (4 * q + 1)) hI.1.1 hF) (cwV 1 hC.S9.2.2.2.2 gL_law_X8_lowerBound rfl rfl rfl (by decide +kernel) ⟨Nat.le_of_ble_eq_true rfl, Nat.le_of_ble_eq_true rfl⟩) [15, 16] rfl (by decide) (SameR.cons (SameR.cons SameR.nil)) (by subst eS; rfl) hP hD hS rfl hl.1 rfl (Nat.le_of_ble_eq_true rfl) ⟨hc1, hs1⟩ dL_law_1882 (fun H locs hP hD hS => ?_)
    refine lv_istore (lv' := [(7, .int 0), (6, .int 1), (5, .int (nI (4 * q))), (4, .ref a.oD), (3, .ref a.oA), (2, .ref a.am), (1, .ref a.aX), (0, .ref b)]) hx hb dL_law_1885 hl (by decide) rfl (fun ls hl => ?_)
    refine lv_aload_n hx hb dL_law_1887 rfl (lv_at hl 5 rfl) ?_
    refine lw_thrown (s1 := S9) (t1 := S9) (k := 1) hC hP (by subst eS; rfl) hl.1 (Nat.le_of_ble_eq_true rfl) ⟨hc1, hs1⟩ dL_law_1888 ?_
    refine lv_iload hx hb dL_law_1891 (lv_at hl 1 rfl) ?_
    refine lv_icmp_eq (tgt := 1898) hx hb dL_law_1893 (by decide) (fun c_1893 => ?_) (fun c_1893 => ?_)
    rotate_left
    · exact absurd c_1893 (by decide)
    refine lv_iload hx hb dL_law_1898 (lv_at hl 1 rfl) ?_
    refine lv_if_ne (tgt := 1915) hx hb dL_law_1900 (by decide) (fun c_1900 => ?_) (fun c_1900 => ?_)
    rotate_left
    · exact absurd c_1900 (by decide)
    refine lv_goto (tgt := 2890) hx hb dL_law_1915 (by decide) ?_
    exact kk S9 H locs ls (LI.of (LI.mono hI (by omega)) (by subst eS; rfl) (by subst eS; rfl) (by subst eS; rfl) (by subst eS; rfl) (by subst eS; rfl) (by subst eS; rfl) (by subst eS; rfl) (by subst eS; rfl) (by subst eS; rfl) (by subst eS; rfl) (by subst eS; rfl) (by subst eS; rfl) (by subst eS; rfl) (by subst eS; rfl) (by subst eS; rfl)) hP hD hS (lv_sub hl [2, 3, 4, 5, 6, 7] rfl)

set_option maxRecDepth 100000 in
set_option maxHeartbeats 4000000 in
theorem case_30 {p : Program} {l : Launch} {e : Env} {s : State} {m : MethodId} {below : List Frame} {meth : Method} {cq : Code} {G : va_G} {cy : Nat → ClassId} {kS vS : Nat → Nat} {A : Nat → Prop} {a : LA} {b L q : Nat} {xs : Nat → Int32} {Q : State → Prop} {n0 cells slots : Nat} (hC : LC l p s m meth cq G cy kS vS A b L xs) (hq : 4 * q + 4 ≤ L) (hn0 : n0 < 1000000) (hc1 : cells + 1 ≤ room_1.cells) (hs1 : slots + 6 ≤ room_1.slots) (kk : LGo p l e s m below meth cq G cy A a b q Q (n0 + 300) (cells + 1) (slots + 6) 2890) : LGo p l e s m below meth cq G cy A a b q Q n0 cells slots 1918 := by
  intro s9 H locs ls hI hP hD hS hl
  obtain ⟨hx, hb, hml, hown, hts⟩ := id hC.S9
  have hL9 := hC.hL
  have hc0 : cells + 0 ≤ room_1.cells := Nat.le_of_succ_le hc1
  have hcn : cells ≤ room_1.cells := Nat.le_of_succ_le hc1
  have hs0 : slots + 0 ≤ room_1.slots := Nat.le_trans (Nat.le_add_right slots 6) hs1
  have hsn : slots ≤ room_1.slots := Nat.le_trans (Nat.le_add_right slots 6) hs1
  have ho := hI.1.1
  have hN0 := ho.1
  have hM0 := ho.2.1
  have hE0 := ho.2.2.1
  have hnx := hI.2.2.2.2.1
  have hct := hI.2.2.2.2.2.1
  by_cases hF : inI (xs (4 * q + 1)) (nI (nD s9.σ)) = true
  · obtain ⟨j, hj, e1⟩ := ix_of (by omega) hF
    obtain ⟨S9, eS⟩ : ∃ z : LwS, z = (LwS.mk s9.σ s9.υ s9.ς s9.hs s9.ep s9.fc s9.ml 0 s9.nx s9.ct s9.nb s9.n s9.LN s9.CM s9.ρ s9.x s9.x0 s9.f s9.gk s9.g1 s9.g2 s9.g3 s9.fb s9.fB s9.fA s9.fV s9.fP s9.fO s9.g (fun _ => (uD s9.σ j).toInt64) s9.fd) := ⟨_, rfl⟩
    refine lv_aload_n hx hb dL_law_1918 rfl (lv_at hl 4 rfl) ?_
    refine lv_aload_n hx hb dL_law_1919 rfl (lv_at hl 5 rfl) ?_
    refine lv_iload hx hb dL_law_1920 (lv_at hl 0 rfl) ?_
    refine lv_iconst (v := 1) hx hb dL_law_1922 (by decide) ?_
    refine lv_iadd hx hb dL_law_1923 ?_
    refine m_sld (v := nI j) hx hb hC.hX hC.hbl hC.hbA hS (k := 4 * q + 1) (m_add rfl rfl) (by omega) hC.hL e1 dL_law_1924 ?_
    refine lv_aload_n hx hb dL_law_1925 rfl (lv_at hl 2 rfl) ?_
    refine lw_w (mc := 0) (ms := 0) (Wc := (LCh cy a s9 s9)) (Wn := (LCh cy a S9 s9)) hC (w_upperBound_ok l G cy kS vS a.aX a.na a.tr a.sn s9.hs a.hi a.sc s9.ep s9.fc a.ob s9.σ j a.oA s9.fo hI.1.1 hj) (vx_cwSW 3 hC.S9.2.2.2.2 gL_law_L_upperBound rfl rfl rfl (by decide +kernel) ⟨Nat.le_of_ble_eq_true rfl, Nat.le_of_ble_eq_true rfl⟩) [0, 1, 24] rfl (by decide) (SameL.cons SameA.rf (SameL.cons SameA.rf (SameL.cons SameA.one SameL.nil))) (by subst eS; rfl) hP hD hS rfl hl.1 rfl (Nat.le_of_ble_eq_true rfl) ⟨hc0, hs0⟩ dL_law_1926 (fun H locs hP hD hS => ?_)
    refine lv_istore (lv' := [(6, .int 0), (5, .int (nI (4 * q))), (4, .ref a.oD), (3, .ref a.oA), (2, .ref a.am), (1, .ref a.aX), (0, .ref b)]) hx hb dL_law_1929 hl (by decide) rfl (fun ls hl => ?_)
    refine lv_aload_n hx hb dL_law_1931 rfl (lv_at hl 4 rfl) ?_
    refine lv_aload_n hx hb dL_law_1932 rfl (lv_at hl 6 rfl) ?_
    refine lv_iload hx hb dL_law_1933 (lv_at hl 1 rfl) ?_
    refine lv_iconst (v := 1) hx hb dL_law_1935 (by decide) ?_
    refine lv_iadd hx hb dL_law_1936 ?_
    refine m_sld (v := nI j) hx hb hC.hX hC.hbl hC.hbA hS (k := 4 * q + 1) (m_add rfl rfl) (by omega) hC.hL e1 dL_law_1937 ?_
    refine lw_m (s1 := S9) (t1 := s9) (Wn := (LCh cy a S9 S9)) hC (c_X8_upperBound_ok l G cy a.am a.aS a.aBf a.aAs a.aSv a.aPa a.aOu a.aTx a.aCo s9.ct s9.nb s9.LN ((s9.x0).1) s9.CM s9.hs s9.th (bI (s9.x0).2) s9.ep s9.fc s9.σ j hI.1.1 hj) (cwV 1 hC.S9.2.2.2.2 gL_law_X8_upperBound rfl rfl rfl (by decide +kernel) ⟨Nat.le_of_ble_eq_true rfl, Nat.le_of_ble_eq_true rfl⟩) [15, 16] rfl (by decide) (SameR.cons (SameR.cons SameR.nil)) (by subst eS; rfl) hP hD hS rfl hl.1 rfl (Nat.le_of_ble_eq_true rfl) ⟨hcn, hsn⟩ dL_law_1938 (fun H locs hP hD hS => ?_)
    refine lv_istore (lv' := [(7, .int (uD s9.σ j)), (6, .int 0), (5, .int (nI (4 * q))), (4, .ref a.oD), (3, .ref a.oA), (2, .ref a.am), (1, .ref a.aX), (0, .ref b)]) hx hb dL_law_1941 hl (by decide) rfl (fun ls hl => ?_)
    refine lv_aload_n hx hb dL_law_1943 rfl (lv_at hl 5 rfl) ?_
    refine lw_thrown (s1 := S9) (t1 := S9) (k := 0) hC hP (by subst eS; rfl) hl.1 (Nat.le_of_ble_eq_true rfl) ⟨hcn, hsn⟩ dL_law_1944 ?_
    refine lv_iload hx hb dL_law_1947 (lv_at hl 1 rfl) ?_
    refine lv_icmp_eq (tgt := 1954) hx hb dL_law_1949 (by decide) (fun c_1949 => ?_) (fun c_1949 => ?_)
    rotate_left
    · exact absurd c_1949 (by decide)
    refine lv_iload hx hb dL_law_1954 (lv_at hl 1 rfl) ?_
    refine lv_if_ne (tgt := 1971) hx hb dL_law_1956 (by decide) (fun c_1956 => ?_) (fun c_1956 => ?_)
    · exact absurd c_1956 (by decide)
    refine lv_aload_n hx hb dL_law_1959 rfl (lv_at hl 4 rfl) ?_
    refine lv_iconst (v := 0) hx hb dL_law_1960 (by decide) ?_
    refine lw_ldL (s1 := S9) (t1 := S9) (x := (uD s9.σ j).toInt64) hC hP (by subst eS; rfl) dL_law_1961 ?_
    refine lv_iload hx hb dL_law_1962 (lv_at hl 0 rfl) ?_
    refine lv_i2l hx hb dL_law_1964 rfl ?_
    refine m_lcmp0 hx hb rfl dL_law_1965 ?_
    refine lv_if_eq (tgt := 1971) hx hb dL_law_1966 (by decide) (fun c_1966 => ?_) (fun c_1966 => ?_)
    rotate_left
    · exact absurd c_1966 (by decide)
    refine lv_goto (tgt := 2890) hx hb dL_law_1971 (by decide) ?_
    refine W.widen (k := cells + 1) (n := slots + 6) (by omega) (by omega) ?_
    exact kk S9 H locs ls (LI.of (LI.mono hI (by omega)) (by subst eS; rfl) (by subst eS; rfl) (by subst eS; rfl) (by subst eS; rfl) (by subst eS; rfl) (by subst eS; rfl) (by subst eS; rfl) (by subst eS; rfl) (by subst eS; rfl) (by subst eS; rfl) (by subst eS; rfl) (by subst eS; rfl) (by subst eS; rfl) (by subst eS; rfl) (by subst eS; rfl)) hP hD hS (lv_sub hl [2, 3, 4, 5, 6, 7] rfl)
  · obtain ⟨S9, eS⟩ : ∃ z : LwS, z = (LwS.mk s9.σ s9.υ s9.ς s9.hs s9.ep s9.fc s9.ml 1 s9.nx s9.ct s9.nb s9.n s9.LN s9.CM s9.ρ s9.x s9.x0 s9.f s9.gk s9.g1 s9.g2 s9.g3 s9.fb s9.fB s9.fA s9.fV s9.fP s9.fO s9.g s9.fo s9.fd) := ⟨_, rfl⟩
    refine lv_aload_n hx hb dL_law_1918 rfl (lv_at hl 4 rfl) ?_
    refine lv_aload_n hx hb dL_law_1919 rfl (lv_at hl 5 rfl) ?_
    refine lv_iload hx hb dL_law_1920 (lv_at hl 0 rfl) ?_
    refine lv_iconst (v := 1) hx hb dL_law_1922 (by decide) ?_
    refine lv_iadd hx hb dL_law_1923 ?_
    refine m_sld (v := xs (4 * q + 1)) hx hb hC.hX hC.hbl hC.hbA hS (k := 4 * q + 1) (m_add rfl rfl) (by omega) hC.hL rfl dL_law_1924 ?_
    refine lv_aload_n hx hb dL_law_1925 rfl (lv_at hl 2 rfl) ?_
    refine lw_w (mc := 1) (ms := 6) (Wc := (LCh cy a s9 s9)) (Wn := (LCh cy a S9 s9)) hC (w_upperBound_t l G cy kS vS a.aX a.na a.tr a.sn s9.hs a.hi a.sc s9.ep s9.fc a.ob s9.σ (xs (4 * q + 1)) a.oA s9.fo hC.hl9 hI.1.1 hF) (vx_cwSW 3 hC.S9.2.2.2.2 gL_law_L_upperBound rfl rfl rfl (by decide +kernel) ⟨Nat.le_of_ble_eq_true rfl, Nat.le_of_ble_eq_true rfl⟩) [0, 1, 24] rfl (by decide) (SameL.cons SameA.rf (SameL.cons SameA.rf (SameL.cons SameA.rf SameL.nil))) (by subst eS; rfl) hP hD hS rfl hl.1 rfl (Nat.le_of_ble_eq_true rfl) ⟨hc1, hs1⟩ dL_law_1926 (fun H locs hP hD hS => ?_)
    refine lv_istore (lv' := [(6, .int 1), (5, .int (nI (4 * q))), (4, .ref a.oD), (3, .ref a.oA), (2, .ref a.am), (1, .ref a.aX), (0, .ref b)]) hx hb dL_law_1929 hl (by decide) rfl (fun ls hl => ?_)
    refine lv_aload_n hx hb dL_law_1931 rfl (lv_at hl 4 rfl) ?_
    refine lv_aload_n hx hb dL_law_1932 rfl (lv_at hl 6 rfl) ?_
    refine lv_iload hx hb dL_law_1933 (lv_at hl 1 rfl) ?_
    refine lv_iconst (v := 1) hx hb dL_law_1935 (by decide) ?_
    refine lv_iadd hx hb dL_law_1936 ?_
    refine m_sld (v := xs (4 * q + 1)) hx hb hC.hX hC.hbl hC.hbA hS (k := 4 * q + 1) (m_add rfl rfl) (by omega) hC.hL rfl dL_law_1937 ?_
    refine lw_m (s1 := S9) (t1 := s9) (Wn := (LCh cy a S9 S9)) hC (c_X8_upperBound_no l G cy a.am a.aS a.aBf a.aAs a.aSv a.aPa a.aOu a.aTx a.aCo s9.ct s9.nb s9.LN ((s9.x0).1) s9.CM s9.hs s9.th (bI (s9.x0).2) s9.ep s9.fc s9.σ (xs (4 * q + 1)) hI.1.1 hF) (cwV 1 hC.S9.2.2.2.2 gL_law_X8_upperBound rfl rfl rfl (by decide +kernel) ⟨Nat.le_of_ble_eq_true rfl, Nat.le_of_ble_eq_true rfl⟩) [15, 16] rfl (by decide) (SameR.cons (SameR.cons SameR.nil)) (by subst eS; rfl) hP hD hS rfl hl.1 rfl (Nat.le_of_ble_eq_true rfl) ⟨hc1, hs1⟩ dL_law_1938 (fun H locs hP hD hS => ?_)
    refine lv_istore (lv' := [(7, .int 0), (6, .int 1), (5, .int (nI (4 * q))), (4, .ref a.oD), (3, .ref a.oA), (2, .ref a.am), (1, .ref a.aX), (0, .ref b)]) hx hb dL_law_1941 hl (by decide) rfl (fun ls hl => ?_)
    refine lv_aload_n hx hb dL_law_1943 rfl (lv_at hl 5 rfl) ?_
    refine lw_thrown (s1 := S9) (t1 := S9) (k := 1) hC hP (by subst eS; rfl) hl.1 (Nat.le_of_ble_eq_true rfl) ⟨hc1, hs1⟩ dL_law_1944 ?_
    refine lv_iload hx hb dL_law_1947 (lv_at hl 1 rfl) ?_
    refine lv_icmp_eq (tgt := 1954) hx hb dL_law_1949 (by decide) (fun c_1949 => ?_) (fun c_1949 => ?_)
    rotate_left
    · exact absurd c_1949 (by decide)
    refine lv_iload hx hb dL_law_1954 (lv_at hl 1 rfl) ?_
    refine lv_if_ne (tgt := 1971) hx hb dL_law_1956 (by decide) (fun c_1956 => ?_) (fun c_1956 => ?_)
    rotate_left
    · exact absurd c_1956 (by decide)
    refine lv_goto (tgt := 2890) hx hb dL_law_1971 (by decide) ?_
    exact kk S9 H locs ls (LI.of (LI.mono hI (by omega)) (by subst eS; rfl) (by subst eS; rfl) (by subst eS; rfl) (by subst eS; rfl) (by subst eS; rfl) (by subst eS; rfl) (by subst eS; rfl) (by subst eS; rfl) (by subst eS; rfl) (by subst eS; rfl) (by subst eS; rfl) (by subst eS; rfl) (by subst eS; rfl) (by subst eS; rfl) (by subst eS; rfl)) hP hD hS (lv_sub hl [2, 3, 4, 5, 6, 7] rfl)

set_option maxRecDepth 100000 in
set_option maxHeartbeats 4000000 in
theorem case_31 {p : Program} {l : Launch} {e : Env} {s : State} {m : MethodId} {below : List Frame} {meth : Method} {cq : Code} {G : va_G} {cy : Nat → ClassId} {kS vS : Nat → Nat} {A : Nat → Prop} {a : LA} {b L q : Nat} {xs : Nat → Int32} {Q : State → Prop} {n0 cells slots : Nat} (hC : LC l p s m meth cq G cy kS vS A b L xs) (hq : 4 * q + 4 ≤ L) (hn0 : n0 < 1000000) (hc1 : cells + 1 ≤ room_1.cells) (hs1 : slots + 6 ≤ room_1.slots) (kk : LGo p l e s m below meth cq G cy A a b q Q (n0 + 300) (cells + 1) (slots + 6) 2890) : LGo p l e s m below meth cq G cy A a b q Q n0 cells slots 1974 := by
  intro s9 H locs ls hI hP hD hS hl
  obtain ⟨hx, hb, hml, hown, hts⟩ := id hC.S9
  have hL9 := hC.hL
  have hc0 : cells + 0 ≤ room_1.cells := Nat.le_of_succ_le hc1
  have hcn : cells ≤ room_1.cells := Nat.le_of_succ_le hc1
  have hs0 : slots + 0 ≤ room_1.slots := Nat.le_trans (Nat.le_add_right slots 6) hs1
  have hsn : slots ≤ room_1.slots := Nat.le_trans (Nat.le_add_right slots 6) hs1
  have ho := hI.1.1
  have hN0 := ho.1
  have hM0 := ho.2.1
  have hE0 := ho.2.2.1
  have hnx := hI.2.2.2.2.1
  have hct := hI.2.2.2.2.2.1
  by_cases hF : inI (xs (4 * q + 1)) (nI (nD s9.σ)) = true
  · obtain ⟨j, hj, e1⟩ := ix_of (by omega) hF
    by_cases hz : (if plS s9.σ j = true then (1 : Int32) else 0) = 0
    · obtain ⟨S9, eS⟩ : ∃ z : LwS, z = (LwS.mk s9.σ s9.υ s9.ς s9.hs s9.ep s9.fc s9.ml 0 s9.nx s9.ct s9.nb s9.n s9.LN s9.CM s9.ρ s9.x s9.x0 s9.f s9.gk s9.g1 s9.g2 s9.g3 s9.fb s9.fB s9.fA s9.fV s9.fP s9.fO s9.g (fun _ => vL (if plS s9.σ j = true then 1 else 0)) s9.fd) := ⟨_, rfl⟩
      refine lv_aload_n hx hb dL_law_1974 rfl (lv_at hl 4 rfl) ?_
      refine lv_aload_n hx hb dL_law_1975 rfl (lv_at hl 5 rfl) ?_
      refine lv_iload hx hb dL_law_1976 (lv_at hl 0 rfl) ?_
      refine lv_iconst (v := 1) hx hb dL_law_1978 (by decide) ?_
      refine lv_iadd hx hb dL_law_1979 ?_
      refine m_sld (v := nI j) hx hb hC.hX hC.hbl hC.hbA hS (k := 4 * q + 1) (m_add rfl rfl) (by omega) hC.hL e1 dL_law_1980 ?_
      refine lv_aload_n hx hb dL_law_1981 rfl (lv_at hl 2 rfl) ?_
      refine lw_w (mc := 0) (ms := 0) (Wc := (LCh cy a s9 s9)) (Wn := (LCh cy a S9 s9)) hC (w_isContent_ok l G cy kS vS a.aX a.na a.tr a.sn s9.hs a.hi a.sc s9.ep s9.fc a.ob s9.σ j a.oA s9.fo hI.1.1 hj) (vx_cwSW 3 hC.S9.2.2.2.2 gL_law_L_isContent rfl rfl rfl (by decide +kernel) ⟨Nat.le_of_ble_eq_true rfl, Nat.le_of_ble_eq_true rfl⟩) [0, 1, 24] rfl (by decide) (SameL.cons SameA.rf (SameL.cons SameA.rf (SameL.cons SameA.one SameL.nil))) (by subst eS; rfl) hP hD hS rfl hl.1 rfl (Nat.le_of_ble_eq_true rfl) ⟨hc0, hs0⟩ dL_law_1982 (fun H locs hP hD hS => ?_)
      refine lv_istore (lv' := [(6, .int 0), (5, .int (nI (4 * q))), (4, .ref a.oD), (3, .ref a.oA), (2, .ref a.am), (1, .ref a.aX), (0, .ref b)]) hx hb dL_law_1985 hl (by decide) rfl (fun ls hl => ?_)
      refine lv_aload_n hx hb dL_law_1987 rfl (lv_at hl 4 rfl) ?_
      refine lv_aload_n hx hb dL_law_1988 rfl (lv_at hl 6 rfl) ?_
      refine lv_iload hx hb dL_law_1989 (lv_at hl 1 rfl) ?_
      refine lv_iconst (v := 1) hx hb dL_law_1991 (by decide) ?_
      refine lv_iadd hx hb dL_law_1992 ?_
      refine m_sld (v := nI j) hx hb hC.hX hC.hbl hC.hbA hS (k := 4 * q + 1) (m_add rfl rfl) (by omega) hC.hL e1 dL_law_1993 ?_
      refine lw_m (s1 := S9) (t1 := s9) (Wn := (LCh cy a S9 S9)) hC (c_X8_isContent_ok l G cy a.am a.aS a.aBf a.aAs a.aSv a.aPa a.aOu a.aTx a.aCo s9.ct s9.nb s9.LN ((s9.x0).1) s9.CM s9.hs s9.th (bI (s9.x0).2) s9.ep s9.fc s9.σ j hI.1.1 hj) (cwV 1 hC.S9.2.2.2.2 gL_law_X8_isContent rfl rfl rfl (by decide +kernel) ⟨Nat.le_of_ble_eq_true rfl, Nat.le_of_ble_eq_true rfl⟩) [15, 16] rfl (by decide) (SameR.cons (SameR.cons SameR.nil)) (by subst eS; rfl) hP hD hS rfl hl.1 rfl (Nat.le_of_ble_eq_true rfl) ⟨hcn, hsn⟩ dL_law_1994 (fun H locs hP hD hS => ?_)
      refine lv_istore (lv' := [(7, .int (if plS s9.σ j = true then 1 else 0)), (6, .int 0), (5, .int (nI (4 * q))), (4, .ref a.oD), (3, .ref a.oA), (2, .ref a.am), (1, .ref a.aX), (0, .ref b)]) hx hb dL_law_1997 hl (by decide) rfl (fun ls hl => ?_)
      refine lv_aload_n hx hb dL_law_1999 rfl (lv_at hl 5 rfl) ?_
      refine lw_thrown (s1 := S9) (t1 := S9) (k := 0) hC hP (by subst eS; rfl) hl.1 (Nat.le_of_ble_eq_true rfl) ⟨hcn, hsn⟩ dL_law_2000 ?_
      refine lv_iload hx hb dL_law_2003 (lv_at hl 1 rfl) ?_
      refine lv_icmp_eq (tgt := 2010) hx hb dL_law_2005 (by decide) (fun c_2005 => ?_) (fun c_2005 => ?_)
      rotate_left
      · exact absurd c_2005 (by decide)
      refine lv_iload hx hb dL_law_2010 (lv_at hl 1 rfl) ?_
      refine lv_if_ne (tgt := 2034) hx hb dL_law_2012 (by decide) (fun c_2012 => ?_) (fun c_2012 => ?_)
      · exact absurd c_2012 (by decide)
      refine lv_aload_n hx hb dL_law_2015 rfl (lv_at hl 4 rfl) ?_
      refine lv_iconst (v := 0) hx hb dL_law_2016 (by decide) ?_
      refine lw_ldL (s1 := S9) (t1 := S9) (x := vL (if plS s9.σ j = true then 1 else 0)) hC hP (by subst eS; rfl) dL_law_2017 ?_
      refine lv_iload hx hb dL_law_2018 (lv_at hl 0 rfl) ?_
      refine lv_if_eq (tgt := 2027) hx hb dL_law_2020 (by decide) (fun c_2020 => ?_) (fun c_2020 => ?_)
      rotate_left
      · exact absurd hz c_2020
      refine lv_lconst (v := 0) hx hb dL_law_2027 (by decide) ?_
      refine m_lcmp0 hx hb (if_pos hz) dL_law_2028 ?_
      refine lv_if_eq (tgt := 2034) hx hb dL_law_2029 (by decide) (fun c_2029 => ?_) (fun c_2029 => ?_)
      rotate_left
      · exact absurd c_2029 (by decide)
      refine lv_goto (tgt := 2890) hx hb dL_law_2034 (by decide) ?_
      refine W.widen (k := cells + 1) (n := slots + 6) (by omega) (by omega) ?_
      exact kk S9 H locs ls (LI.of (LI.mono hI (by omega)) (by subst eS; rfl) (by subst eS; rfl) (by subst eS; rfl) (by subst eS; rfl) (by subst eS; rfl) (by subst eS; rfl) (by subst eS; rfl) (by subst eS; rfl) (by subst eS; rfl) (by subst eS; rfl) (by subst eS; rfl) (by subst eS; rfl) (by subst eS; rfl) (by subst eS; rfl) (by subst eS; rfl)) hP hD hS (lv_sub hl [2, 3, 4, 5, 6, 7] rfl)
    · obtain ⟨S9, eS⟩ : ∃ z : LwS, z = (LwS.mk s9.σ s9.υ s9.ς s9.hs s9.ep s9.fc s9.ml 0 s9.nx s9.ct s9.nb s9.n s9.LN s9.CM s9.ρ s9.x s9.x0 s9.f s9.gk s9.g1 s9.g2 s9.g3 s9.fb s9.fB s9.fA s9.fV s9.fP s9.fO s9.g (fun _ => vL (if plS s9.σ j = true then 1 else 0)) s9.fd) := ⟨_, rfl⟩
      refine lv_aload_n hx hb dL_law_1974 rfl (lv_at hl 4 rfl) ?_
      refine lv_aload_n hx hb dL_law_1975 rfl (lv_at hl 5 rfl) ?_
      refine lv_iload hx hb dL_law_1976 (lv_at hl 0 rfl) ?_
      refine lv_iconst (v := 1) hx hb dL_law_1978 (by decide) ?_
      refine lv_iadd hx hb dL_law_1979 ?_
      refine m_sld (v := nI j) hx hb hC.hX hC.hbl hC.hbA hS (k := 4 * q + 1) (m_add rfl rfl) (by omega) hC.hL e1 dL_law_1980 ?_
      refine lv_aload_n hx hb dL_law_1981 rfl (lv_at hl 2 rfl) ?_
      refine lw_w (mc := 0) (ms := 0) (Wc := (LCh cy a s9 s9)) (Wn := (LCh cy a S9 s9)) hC (w_isContent_ok l G cy kS vS a.aX a.na a.tr a.sn s9.hs a.hi a.sc s9.ep s9.fc a.ob s9.σ j a.oA s9.fo hI.1.1 hj) (vx_cwSW 3 hC.S9.2.2.2.2 gL_law_L_isContent rfl rfl rfl (by decide +kernel) ⟨Nat.le_of_ble_eq_true rfl, Nat.le_of_ble_eq_true rfl⟩) [0, 1, 24] rfl (by decide) (SameL.cons SameA.rf (SameL.cons SameA.rf (SameL.cons SameA.one SameL.nil))) (by subst eS; rfl) hP hD hS rfl hl.1 rfl (Nat.le_of_ble_eq_true rfl) ⟨hc0, hs0⟩ dL_law_1982 (fun H locs hP hD hS => ?_)
      refine lv_istore (lv' := [(6, .int 0), (5, .int (nI (4 * q))), (4, .ref a.oD), (3, .ref a.oA), (2, .ref a.am), (1, .ref a.aX), (0, .ref b)]) hx hb dL_law_1985 hl (by decide) rfl (fun ls hl => ?_)
      refine lv_aload_n hx hb dL_law_1987 rfl (lv_at hl 4 rfl) ?_
      refine lv_aload_n hx hb dL_law_1988 rfl (lv_at hl 6 rfl) ?_
      refine lv_iload hx hb dL_law_1989 (lv_at hl 1 rfl) ?_
      refine lv_iconst (v := 1) hx hb dL_law_1991 (by decide) ?_
      refine lv_iadd hx hb dL_law_1992 ?_
      refine m_sld (v := nI j) hx hb hC.hX hC.hbl hC.hbA hS (k := 4 * q + 1) (m_add rfl rfl) (by omega) hC.hL e1 dL_law_1993 ?_
      refine lw_m (s1 := S9) (t1 := s9) (Wn := (LCh cy a S9 S9)) hC (c_X8_isContent_ok l G cy a.am a.aS a.aBf a.aAs a.aSv a.aPa a.aOu a.aTx a.aCo s9.ct s9.nb s9.LN ((s9.x0).1) s9.CM s9.hs s9.th (bI (s9.x0).2) s9.ep s9.fc s9.σ j hI.1.1 hj) (cwV 1 hC.S9.2.2.2.2 gL_law_X8_isContent rfl rfl rfl (by decide +kernel) ⟨Nat.le_of_ble_eq_true rfl, Nat.le_of_ble_eq_true rfl⟩) [15, 16] rfl (by decide) (SameR.cons (SameR.cons SameR.nil)) (by subst eS; rfl) hP hD hS rfl hl.1 rfl (Nat.le_of_ble_eq_true rfl) ⟨hcn, hsn⟩ dL_law_1994 (fun H locs hP hD hS => ?_)
      refine lv_istore (lv' := [(7, .int (if plS s9.σ j = true then 1 else 0)), (6, .int 0), (5, .int (nI (4 * q))), (4, .ref a.oD), (3, .ref a.oA), (2, .ref a.am), (1, .ref a.aX), (0, .ref b)]) hx hb dL_law_1997 hl (by decide) rfl (fun ls hl => ?_)
      refine lv_aload_n hx hb dL_law_1999 rfl (lv_at hl 5 rfl) ?_
      refine lw_thrown (s1 := S9) (t1 := S9) (k := 0) hC hP (by subst eS; rfl) hl.1 (Nat.le_of_ble_eq_true rfl) ⟨hcn, hsn⟩ dL_law_2000 ?_
      refine lv_iload hx hb dL_law_2003 (lv_at hl 1 rfl) ?_
      refine lv_icmp_eq (tgt := 2010) hx hb dL_law_2005 (by decide) (fun c_2005 => ?_) (fun c_2005 => ?_)
      rotate_left
      · exact absurd c_2005 (by decide)
      refine lv_iload hx hb dL_law_2010 (lv_at hl 1 rfl) ?_
      refine lv_if_ne (tgt := 2034) hx hb dL_law_2012 (by decide) (fun c_2012 => ?_) (fun c_2012 => ?_)
      · exact absurd c_2012 (by decide)
      refine lv_aload_n hx hb dL_law_2015 rfl (lv_at hl 4 rfl) ?_
      refine lv_iconst (v := 0) hx hb dL_law_2016 (by decide) ?_
      refine lw_ldL (s1 := S9) (t1 := S9) (x := vL (if plS s9.σ j = true then 1 else 0)) hC hP (by subst eS; rfl) dL_law_2017 ?_
      refine lv_iload hx hb dL_law_2018 (lv_at hl 0 rfl) ?_
      refine lv_if_eq (tgt := 2027) hx hb dL_law_2020 (by decide) (fun c_2020 => ?_) (fun c_2020 => ?_)
      · exact absurd c_2020 hz
      refine lv_lconst (v := 1) hx hb dL_law_2023 (by decide) ?_
      refine lv_goto (tgt := 2028) hx hb dL_law_2024 (by decide) ?_
      refine m_lcmp0 hx hb (if_neg hz) dL_law_2028 ?_
      refine lv_if_eq (tgt := 2034) hx hb dL_law_2029 (by decide) (fun c_2029 => ?_) (fun c_2029 => ?_)
      rotate_left
      · exact absurd c_2029 (by decide)
      refine lv_goto (tgt := 2890) hx hb dL_law_2034 (by decide) ?_
      refine W.widen (k := cells + 1) (n := slots + 6) (by omega) (by omega) ?_
      exact kk S9 H locs ls (LI.of (LI.mono hI (by omega)) (by subst eS; rfl) (by subst eS; rfl) (by subst eS; rfl) (by subst eS; rfl) (by subst eS; rfl) (by subst eS; rfl) (by subst eS; rfl) (by subst eS; rfl) (by subst eS; rfl) (by subst eS; rfl) (by subst eS; rfl) (by subst eS; rfl) (by subst eS; rfl) (by subst eS; rfl) (by subst eS; rfl)) hP hD hS (lv_sub hl [2, 3, 4, 5, 6, 7] rfl)
  · obtain ⟨S9, eS⟩ : ∃ z : LwS, z = (LwS.mk s9.σ s9.υ s9.ς s9.hs s9.ep s9.fc s9.ml 1 s9.nx s9.ct s9.nb s9.n s9.LN s9.CM s9.ρ s9.x s9.x0 s9.f s9.gk s9.g1 s9.g2 s9.g3 s9.fb s9.fB s9.fA s9.fV s9.fP s9.fO s9.g s9.fo s9.fd) := ⟨_, rfl⟩
    refine lv_aload_n hx hb dL_law_1974 rfl (lv_at hl 4 rfl) ?_
    refine lv_aload_n hx hb dL_law_1975 rfl (lv_at hl 5 rfl) ?_
    refine lv_iload hx hb dL_law_1976 (lv_at hl 0 rfl) ?_
    refine lv_iconst (v := 1) hx hb dL_law_1978 (by decide) ?_
    refine lv_iadd hx hb dL_law_1979 ?_
    refine m_sld (v := xs (4 * q + 1)) hx hb hC.hX hC.hbl hC.hbA hS (k := 4 * q + 1) (m_add rfl rfl) (by omega) hC.hL rfl dL_law_1980 ?_
    refine lv_aload_n hx hb dL_law_1981 rfl (lv_at hl 2 rfl) ?_
    refine lw_w (mc := 1) (ms := 6) (Wc := (LCh cy a s9 s9)) (Wn := (LCh cy a S9 s9)) hC (w_isContent_t l G cy kS vS a.aX a.na a.tr a.sn s9.hs a.hi a.sc s9.ep s9.fc a.ob s9.σ (xs (4 * q + 1)) a.oA s9.fo hC.hl9 hI.1.1 hF) (vx_cwSW 3 hC.S9.2.2.2.2 gL_law_L_isContent rfl rfl rfl (by decide +kernel) ⟨Nat.le_of_ble_eq_true rfl, Nat.le_of_ble_eq_true rfl⟩) [0, 1, 24] rfl (by decide) (SameL.cons SameA.rf (SameL.cons SameA.rf (SameL.cons SameA.rf SameL.nil))) (by subst eS; rfl) hP hD hS rfl hl.1 rfl (Nat.le_of_ble_eq_true rfl) ⟨hc1, hs1⟩ dL_law_1982 (fun H locs hP hD hS => ?_)
    refine lv_istore (lv' := [(6, .int 1), (5, .int (nI (4 * q))), (4, .ref a.oD), (3, .ref a.oA), (2, .ref a.am), (1, .ref a.aX), (0, .ref b)]) hx hb dL_law_1985 hl (by decide) rfl (fun ls hl => ?_)
    refine lv_aload_n hx hb dL_law_1987 rfl (lv_at hl 4 rfl) ?_
    refine lv_aload_n hx hb dL_law_1988 rfl (lv_at hl 6 rfl) ?_
    refine lv_iload hx hb dL_law_1989 (lv_at hl 1 rfl) ?_
    refine lv_iconst (v := 1) hx hb dL_law_1991 (by decide) ?_
    refine lv_iadd hx hb dL_law_1992 ?_
    refine m_sld (v := xs (4 * q + 1)) hx hb hC.hX hC.hbl hC.hbA hS (k := 4 * q + 1) (m_add rfl rfl) (by omega) hC.hL rfl dL_law_1993 ?_
    refine lw_m (s1 := S9) (t1 := s9) (Wn := (LCh cy a S9 S9)) hC (c_X8_isContent_no l G cy a.am a.aS a.aBf a.aAs a.aSv a.aPa a.aOu a.aTx a.aCo s9.ct s9.nb s9.LN ((s9.x0).1) s9.CM s9.hs s9.th (bI (s9.x0).2) s9.ep s9.fc s9.σ (xs (4 * q + 1)) hI.1.1 hF) (cwV 1 hC.S9.2.2.2.2 gL_law_X8_isContent rfl rfl rfl (by decide +kernel) ⟨Nat.le_of_ble_eq_true rfl, Nat.le_of_ble_eq_true rfl⟩) [15, 16] rfl (by decide) (SameR.cons (SameR.cons SameR.nil)) (by subst eS; rfl) hP hD hS rfl hl.1 rfl (Nat.le_of_ble_eq_true rfl) ⟨hc1, hs1⟩ dL_law_1994 (fun H locs hP hD hS => ?_)
    refine lv_istore (lv' := [(7, .int 0), (6, .int 1), (5, .int (nI (4 * q))), (4, .ref a.oD), (3, .ref a.oA), (2, .ref a.am), (1, .ref a.aX), (0, .ref b)]) hx hb dL_law_1997 hl (by decide) rfl (fun ls hl => ?_)
    refine lv_aload_n hx hb dL_law_1999 rfl (lv_at hl 5 rfl) ?_
    refine lw_thrown (s1 := S9) (t1 := S9) (k := 1) hC hP (by subst eS; rfl) hl.1 (Nat.le_of_ble_eq_true rfl) ⟨hc1, hs1⟩ dL_law_2000 ?_
    refine lv_iload hx hb dL_law_2003 (lv_at hl 1 rfl) ?_
    refine lv_icmp_eq (tgt := 2010) hx hb dL_law_2005 (by decide) (fun c_2005 => ?_) (fun c_2005 => ?_)
    rotate_left
    · exact absurd c_2005 (by decide)
    refine lv_iload hx hb dL_law_2010 (lv_at hl 1 rfl) ?_
    refine lv_if_ne (tgt := 2034) hx hb dL_law_2012 (by decide) (fun c_2012 => ?_) (fun c_2012 => ?_)
    rotate_left
    · exact absurd c_2012 (by decide)
    refine lv_goto (tgt := 2890) hx hb dL_law_2034 (by decide) ?_
    exact kk S9 H locs ls (LI.of (LI.mono hI (by omega)) (by subst eS; rfl) (by subst eS; rfl) (by subst eS; rfl) (by subst eS; rfl) (by subst eS; rfl) (by subst eS; rfl) (by subst eS; rfl) (by subst eS; rfl) (by subst eS; rfl) (by subst eS; rfl) (by subst eS; rfl) (by subst eS; rfl) (by subst eS; rfl) (by subst eS; rfl) (by subst eS; rfl)) hP hD hS (lv_sub hl [2, 3, 4, 5, 6, 7] rfl)

set_option maxRecDepth 100000 in
set_option maxHeartbeats 4000000 in
theorem case_32 {p : Program} {l : Launch} {e : Env} {s : State} {m : MethodId} {below : List Frame} {meth : Method} {cq : Code} {G : va_G} {cy : Nat → ClassId} {kS vS : Nat → Nat} {A : Nat → Prop} {a : LA} {b L q : Nat} {xs : Nat → Int32} {Q : State → Prop} {n0 cells slots : Nat} (hC : LC l p s m meth cq G cy kS vS A b L xs) (hq : 4 * q + 4 ≤ L) (hn0 : n0 < 1000000) (hc1 : cells + 1 ≤ room_1.cells) (hs1 : slots + 6 ≤ room_1.slots) (kk : LGo p l e s m below meth cq G cy A a b q Q (n0 + 300) (cells + 1) (slots + 6) 2890) : LGo p l e s m below meth cq G cy A a b q Q n0 cells slots 2037 := by
  intro s9 H locs ls hI hP hD hS hl
  obtain ⟨hx, hb, hml, hown, hts⟩ := id hC.S9
  have hL9 := hC.hL
  have hc0 : cells + 0 ≤ room_1.cells := Nat.le_of_succ_le hc1
  have hcn : cells ≤ room_1.cells := Nat.le_of_succ_le hc1
  have hs0 : slots + 0 ≤ room_1.slots := Nat.le_trans (Nat.le_add_right slots 6) hs1
  have hsn : slots ≤ room_1.slots := Nat.le_trans (Nat.le_add_right slots 6) hs1
  have ho := hI.1.1
  have hN0 := ho.1
  have hM0 := ho.2.1
  have hE0 := ho.2.2.1
  have hnx := hI.2.2.2.2.1
  have hct := hI.2.2.2.2.2.1
  by_cases hF : inI (xs (4 * q + 1)) (nI (nD s9.σ)) = true
  · obtain ⟨j, hj, e1⟩ := ix_of (by omega) hF
    obtain ⟨S9, eS⟩ : ∃ z : LwS, z = (LwS.mk s9.σ s9.υ s9.ς s9.hs s9.ep s9.fc s9.ml 0 s9.nx s9.ct s9.nb s9.n s9.LN s9.CM s9.ρ s9.x s9.x0 s9.f s9.gk s9.g1 s9.g2 s9.g3 s9.fb s9.fB s9.fA s9.fV s9.fP s9.fO s9.g (fun _ => (qD s9.σ j).toInt64) s9.fd) := ⟨_, rfl⟩
    refine lv_aload_n hx hb dL_law_2037 rfl (lv_at hl 4 rfl) ?_
    refine lv_aload_n hx hb dL_law_2038 rfl (lv_at hl 5 rfl) ?_
    refine lv_iload hx hb dL_law_2039 (lv_at hl 0 rfl) ?_
    refine lv_iconst (v := 1) hx hb dL_law_2041 (by decide) ?_
    refine lv_iadd hx hb dL_law_2042 ?_
    refine m_sld (v := nI j) hx hb hC.hX hC.hbl hC.hbA hS (k := 4 * q + 1) (m_add rfl rfl) (by omega) hC.hL e1 dL_law_2043 ?_
    refine lv_aload_n hx hb dL_law_2044 rfl (lv_at hl 2 rfl) ?_
    refine lw_w (mc := 0) (ms := 0) (Wc := (LCh cy a s9 s9)) (Wn := (LCh cy a S9 s9)) hC (w_quacks_ok l G cy kS vS a.aX a.na a.tr a.sn s9.hs a.hi a.sc s9.ep s9.fc a.ob s9.σ j a.oA s9.fo hI.1.1 hj) (vx_cwSW 3 hC.S9.2.2.2.2 gL_law_L_quacks rfl rfl rfl (by decide +kernel) ⟨Nat.le_of_ble_eq_true rfl, Nat.le_of_ble_eq_true rfl⟩) [0, 1, 24] rfl (by decide) (SameL.cons SameA.rf (SameL.cons SameA.rf (SameL.cons SameA.one SameL.nil))) (by subst eS; rfl) hP hD hS rfl hl.1 rfl (Nat.le_of_ble_eq_true rfl) ⟨hc0, hs0⟩ dL_law_2045 (fun H locs hP hD hS => ?_)
    refine lv_istore (lv' := [(6, .int 0), (5, .int (nI (4 * q))), (4, .ref a.oD), (3, .ref a.oA), (2, .ref a.am), (1, .ref a.aX), (0, .ref b)]) hx hb dL_law_2048 hl (by decide) rfl (fun ls hl => ?_)
    refine lv_aload_n hx hb dL_law_2050 rfl (lv_at hl 4 rfl) ?_
    refine lv_aload_n hx hb dL_law_2051 rfl (lv_at hl 6 rfl) ?_
    refine lv_iload hx hb dL_law_2052 (lv_at hl 1 rfl) ?_
    refine lv_iconst (v := 1) hx hb dL_law_2054 (by decide) ?_
    refine lv_iadd hx hb dL_law_2055 ?_
    refine m_sld (v := nI j) hx hb hC.hX hC.hbl hC.hbA hS (k := 4 * q + 1) (m_add rfl rfl) (by omega) hC.hL e1 dL_law_2056 ?_
    refine lw_m (s1 := S9) (t1 := s9) (Wn := (LCh cy a S9 S9)) hC (c_X8_quacks_ok l G cy a.am a.aS a.aBf a.aAs a.aSv a.aPa a.aOu a.aTx a.aCo s9.ct s9.nb s9.LN ((s9.x0).1) s9.CM s9.hs s9.th (bI (s9.x0).2) s9.ep s9.fc s9.σ j hI.1.1 hj) (cwV 1 hC.S9.2.2.2.2 gL_law_X8_quacks rfl rfl rfl (by decide +kernel) ⟨Nat.le_of_ble_eq_true rfl, Nat.le_of_ble_eq_true rfl⟩) [15, 16] rfl (by decide) (SameR.cons (SameR.cons SameR.nil)) (by subst eS; rfl) hP hD hS rfl hl.1 rfl (Nat.le_of_ble_eq_true rfl) ⟨hcn, hsn⟩ dL_law_2057 (fun H locs hP hD hS => ?_)
    refine lv_istore (lv' := [(7, .int (qD s9.σ j)), (6, .int 0), (5, .int (nI (4 * q))), (4, .ref a.oD), (3, .ref a.oA), (2, .ref a.am), (1, .ref a.aX), (0, .ref b)]) hx hb dL_law_2060 hl (by decide) rfl (fun ls hl => ?_)
    refine lv_aload_n hx hb dL_law_2062 rfl (lv_at hl 5 rfl) ?_
    refine lw_thrown (s1 := S9) (t1 := S9) (k := 0) hC hP (by subst eS; rfl) hl.1 (Nat.le_of_ble_eq_true rfl) ⟨hcn, hsn⟩ dL_law_2063 ?_
    refine lv_iload hx hb dL_law_2066 (lv_at hl 1 rfl) ?_
    refine lv_icmp_eq (tgt := 2073) hx hb dL_law_2068 (by decide) (fun c_2068 => ?_) (fun c_2068 => ?_)
    rotate_left
    · exact absurd c_2068 (by decide)
    refine lv_iload hx hb dL_law_2073 (lv_at hl 1 rfl) ?_
    refine lv_if_ne (tgt := 2090) hx hb dL_law_2075 (by decide) (fun c_2075 => ?_) (fun c_2075 => ?_)
    · exact absurd c_2075 (by decide)
    refine lv_aload_n hx hb dL_law_2078 rfl (lv_at hl 4 rfl) ?_
    refine lv_iconst (v := 0) hx hb dL_law_2079 (by decide) ?_
    refine lw_ldL (s1 := S9) (t1 := S9) (x := (qD s9.σ j).toInt64) hC hP (by subst eS; rfl) dL_law_2080 ?_
    refine lv_iload hx hb dL_law_2081 (lv_at hl 0 rfl) ?_
    refine lv_i2l hx hb dL_law_2083 rfl ?_
    refine m_lcmp0 hx hb rfl dL_law_2084 ?_
    refine lv_if_eq (tgt := 2090) hx hb dL_law_2085 (by decide) (fun c_2085 => ?_) (fun c_2085 => ?_)
    rotate_left
    · exact absurd c_2085 (by decide)
    refine lv_goto (tgt := 2890) hx hb dL_law_2090 (by decide) ?_
    refine W.widen (k := cells + 1) (n := slots + 6) (by omega) (by omega) ?_
    exact kk S9 H locs ls (LI.of (LI.mono hI (by omega)) (by subst eS; rfl) (by subst eS; rfl) (by subst eS; rfl) (by subst eS; rfl) (by subst eS; rfl) (by subst eS; rfl) (by subst eS; rfl) (by subst eS; rfl) (by subst eS; rfl) (by subst eS; rfl) (by subst eS; rfl) (by subst eS; rfl) (by subst eS; rfl) (by subst eS; rfl) (by subst eS; rfl)) hP hD hS (lv_sub hl [2, 3, 4, 5, 6, 7] rfl)
  · obtain ⟨S9, eS⟩ : ∃ z : LwS, z = (LwS.mk s9.σ s9.υ s9.ς s9.hs s9.ep s9.fc s9.ml 1 s9.nx s9.ct s9.nb s9.n s9.LN s9.CM s9.ρ s9.x s9.x0 s9.f s9.gk s9.g1 s9.g2 s9.g3 s9.fb s9.fB s9.fA s9.fV s9.fP s9.fO s9.g s9.fo s9.fd) := ⟨_, rfl⟩
    refine lv_aload_n hx hb dL_law_2037 rfl (lv_at hl 4 rfl) ?_
    refine lv_aload_n hx hb dL_law_2038 rfl (lv_at hl 5 rfl) ?_
    refine lv_iload hx hb dL_law_2039 (lv_at hl 0 rfl) ?_
    refine lv_iconst (v := 1) hx hb dL_law_2041 (by decide) ?_
    refine lv_iadd hx hb dL_law_2042 ?_
    refine m_sld (v := xs (4 * q + 1)) hx hb hC.hX hC.hbl hC.hbA hS (k := 4 * q + 1) (m_add rfl rfl) (by omega) hC.hL rfl dL_law_2043 ?_
    refine lv_aload_n hx hb dL_law_2044 rfl (lv_at hl 2 rfl) ?_
    refine lw_w (mc := 1) (ms := 6) (Wc := (LCh cy a s9 s9)) (Wn := (LCh cy a S9 s9)) hC (w_quacks_t l G cy kS vS a.aX a.na a.tr a.sn s9.hs a.hi a.sc s9.ep s9.fc a.ob s9.σ (xs (4 * q + 1)) a.oA s9.fo hC.hl9 hI.1.1 hF) (vx_cwSW 3 hC.S9.2.2.2.2 gL_law_L_quacks rfl rfl rfl (by decide +kernel) ⟨Nat.le_of_ble_eq_true rfl, Nat.le_of_ble_eq_true rfl⟩) [0, 1, 24] rfl (by decide) (SameL.cons SameA.rf (SameL.cons SameA.rf (SameL.cons SameA.rf SameL.nil))) (by subst eS; rfl) hP hD hS rfl hl.1 rfl (Nat.le_of_ble_eq_true rfl) ⟨hc1, hs1⟩ dL_law_2045 (fun H locs hP hD hS => ?_)
    refine lv_istore (lv' := [(6, .int 1), (5, .int (nI (4 * q))), (4, .ref a.oD), (3, .ref a.oA), (2, .ref a.am), (1, .ref a.aX), (0, .ref b)]) hx hb dL_law_2048 hl (by decide) rfl (fun ls hl => ?_)
    refine lv_aload_n hx hb dL_law_2050 rfl (lv_at hl 4 rfl) ?_
    refine lv_aload_n hx hb dL_law_2051 rfl (lv_at hl 6 rfl) ?_
    refine lv_iload hx hb dL_law_2052 (lv_at hl 1 rfl) ?_
    refine lv_iconst (v := 1) hx hb dL_law_2054 (by decide) ?_
    refine lv_iadd hx hb dL_law_2055 ?_
    refine m_sld (v := xs (4 * q + 1)) hx hb hC.hX hC.hbl hC.hbA hS (k := 4 * q + 1) (m_add rfl rfl) (by omega) hC.hL rfl dL_law_2056 ?_
    refine lw_m (s1 := S9) (t1 := s9) (Wn := (LCh cy a S9 S9)) hC (c_X8_quacks_no l G cy a.am a.aS a.aBf a.aAs a.aSv a.aPa a.aOu a.aTx a.aCo s9.ct s9.nb s9.LN ((s9.x0).1) s9.CM s9.hs s9.th (bI (s9.x0).2) s9.ep s9.fc s9.σ (xs (4 * q + 1)) hI.1.1 hF) (cwV 1 hC.S9.2.2.2.2 gL_law_X8_quacks rfl rfl rfl (by decide +kernel) ⟨Nat.le_of_ble_eq_true rfl, Nat.le_of_ble_eq_true rfl⟩) [15, 16] rfl (by decide) (SameR.cons (SameR.cons SameR.nil)) (by subst eS; rfl) hP hD hS rfl hl.1 rfl (Nat.le_of_ble_eq_true rfl) ⟨hc1, hs1⟩ dL_law_2057 (fun H locs hP hD hS => ?_)
    refine lv_istore (lv' := [(7, .int 0), (6, .int 1), (5, .int (nI (4 * q))), (4, .ref a.oD), (3, .ref a.oA), (2, .ref a.am), (1, .ref a.aX), (0, .ref b)]) hx hb dL_law_2060 hl (by decide) rfl (fun ls hl => ?_)
    refine lv_aload_n hx hb dL_law_2062 rfl (lv_at hl 5 rfl) ?_
    refine lw_thrown (s1 := S9) (t1 := S9) (k := 1) hC hP (by subst eS; rfl) hl.1 (Nat.le_of_ble_eq_true rfl) ⟨hc1, hs1⟩ dL_law_2063 ?_
    refine lv_iload hx hb dL_law_2066 (lv_at hl 1 rfl) ?_
    refine lv_icmp_eq (tgt := 2073) hx hb dL_law_2068 (by decide) (fun c_2068 => ?_) (fun c_2068 => ?_)
    rotate_left
    · exact absurd c_2068 (by decide)
    refine lv_iload hx hb dL_law_2073 (lv_at hl 1 rfl) ?_
    refine lv_if_ne (tgt := 2090) hx hb dL_law_2075 (by decide) (fun c_2075 => ?_) (fun c_2075 => ?_)
    rotate_left
    · exact absurd c_2075 (by decide)
    refine lv_goto (tgt := 2890) hx hb dL_law_2090 (by decide) ?_
    exact kk S9 H locs ls (LI.of (LI.mono hI (by omega)) (by subst eS; rfl) (by subst eS; rfl) (by subst eS; rfl) (by subst eS; rfl) (by subst eS; rfl) (by subst eS; rfl) (by subst eS; rfl) (by subst eS; rfl) (by subst eS; rfl) (by subst eS; rfl) (by subst eS; rfl) (by subst eS; rfl) (by subst eS; rfl) (by subst eS; rfl) (by subst eS; rfl)) hP hD hS (lv_sub hl [2, 3, 4, 5, 6, 7] rfl)

set_option maxRecDepth 100000 in
set_option maxHeartbeats 4000000 in
theorem case_33 {p : Program} {l : Launch} {e : Env} {s : State} {m : MethodId} {below : List Frame} {meth : Method} {cq : Code} {G : va_G} {cy : Nat → ClassId} {kS vS : Nat → Nat} {A : Nat → Prop} {a : LA} {b L q : Nat} {xs : Nat → Int32} {Q : State → Prop} {n0 cells slots : Nat} (hC : LC l p s m meth cq G cy kS vS A b L xs) (hq : 4 * q + 4 ≤ L) (hn0 : n0 < 1000000) (hc1 : cells + 1 ≤ room_1.cells) (hs1 : slots + 6 ≤ room_1.slots) (kk : LGo p l e s m below meth cq G cy A a b q Q (n0 + 300) (cells + 1) (slots + 6) 2890) : LGo p l e s m below meth cq G cy A a b q Q n0 cells slots 2093 := by
  intro s9 H locs ls hI hP hD hS hl
  obtain ⟨hx, hb, hml, hown, hts⟩ := id hC.S9
  have hL9 := hC.hL
  have hc0 : cells + 0 ≤ room_1.cells := Nat.le_of_succ_le hc1
  have hcn : cells ≤ room_1.cells := Nat.le_of_succ_le hc1
  have hs0 : slots + 0 ≤ room_1.slots := Nat.le_trans (Nat.le_add_right slots 6) hs1
  have hsn : slots ≤ room_1.slots := Nat.le_trans (Nat.le_add_right slots 6) hs1
  have ho := hI.1.1
  have hN0 := ho.1
  have hM0 := ho.2.1
  have hE0 := ho.2.2.1
  have hnx := hI.2.2.2.2.1
  have hct := hI.2.2.2.2.2.1
  by_cases hF : inI (xs (4 * q + 1)) (nI (nD s9.σ)) = true
  · obtain ⟨j, hj, e1⟩ := ix_of (by omega) hF
    have hF2 : inI (nI j) (nI (nD s9.σ)) = true := by rw [← e1]; exact hF
    obtain ⟨S9, eS⟩ : ∃ z : LwS, z = (LwS.mk s9.σ s9.υ s9.ς s9.hs s9.ep s9.fc s9.ml 0 s9.nx s9.ct s9.nb s9.n s9.LN s9.CM s9.ρ s9.x s9.x0 s9.f s9.gk s9.g1 s9.g2 s9.g3 s9.fb s9.fB s9.fA s9.fV s9.fP s9.fO s9.g (fun _ => (atF (fun j => rkDN (plz (vB s9.σ) (hB s9.σ) (bD s9.σ) (lD s9.σ) (uD s9.σ)) (qD s9.σ) j (nD s9.σ)) (nI j) 0 (nD s9.σ)).toInt64) s9.fd) := ⟨_, rfl⟩
    refine lv_aload_n hx hb dL_law_2093 rfl (lv_at hl 4 rfl) ?_
    refine lv_aload_n hx hb dL_law_2094 rfl (lv_at hl 5 rfl) ?_
    refine lv_iload hx hb dL_law_2095 (lv_at hl 0 rfl) ?_
    refine lv_iconst (v := 1) hx hb dL_law_2097 (by decide) ?_
    refine lv_iadd hx hb dL_law_2098 ?_
    refine m_sld (v := nI j) hx hb hC.hX hC.hbl hC.hbA hS (k := 4 * q + 1) (m_add rfl rfl) (by omega) hC.hL e1 dL_law_2099 ?_
    refine lv_aload_n hx hb dL_law_2100 rfl (lv_at hl 2 rfl) ?_
    refine lw_w (mc := 0) (ms := 0) (Wc := (LCh cy a s9 s9)) (Wn := (LCh cy a S9 s9)) hC (w_duckByQuacks_ok l G cy kS vS a.aX a.na a.tr a.sn s9.hs a.hi a.sc s9.ep s9.fc a.ob s9.σ j a.oA s9.fo hI.1.1 hj) (vx_cwSW 3 hC.S9.2.2.2.2 gL_law_L_duckByQuacks rfl rfl rfl (by decide +kernel) ⟨Nat.le_of_ble_eq_true rfl, Nat.le_of_ble_eq_true rfl⟩) [0, 1, 24] rfl (by decide) (SameL.cons SameA.rf (SameL.cons SameA.rf (SameL.cons SameA.one SameL.nil))) (by subst eS; rfl) hP hD hS rfl hl.1 rfl (Nat.le_of_ble_eq_true rfl) ⟨hc0, hs0⟩ dL_law_2101 (fun H locs hP hD hS => ?_)
    refine lv_istore (lv' := [(6, .int 0), (5, .int (nI (4 * q))), (4, .ref a.oD), (3, .ref a.oA), (2, .ref a.am), (1, .ref a.aX), (0, .ref b)]) hx hb dL_law_2104 hl (by decide) rfl (fun ls hl => ?_)
    refine lv_aload_n hx hb dL_law_2106 rfl (lv_at hl 4 rfl) ?_
    refine lv_aload_n hx hb dL_law_2107 rfl (lv_at hl 6 rfl) ?_
    refine lv_iload hx hb dL_law_2108 (lv_at hl 1 rfl) ?_
    refine lv_iconst (v := 1) hx hb dL_law_2110 (by decide) ?_
    refine lv_iadd hx hb dL_law_2111 ?_
    refine m_sld (v := nI j) hx hb hC.hX hC.hbl hC.hbA hS (k := 4 * q + 1) (m_add rfl rfl) (by omega) hC.hL e1 dL_law_2112 ?_
    refine lw_m (s1 := S9) (t1 := s9) (Wn := (LCh cy a S9 S9)) hC (c_X8_duckByQuacks_ok l G cy a.am a.aS a.aBf a.aAs a.aSv a.aPa a.aOu a.aTx a.aCo s9.ct s9.nb s9.LN ((s9.x0).1) s9.CM s9.hs s9.th (bI (s9.x0).2) s9.ep s9.fc s9.σ (nI j) hI.1.1 hF2 (fun j hj => ⟨(hI.1.2.2.2.1 j hj).1, by have := (hI.1.2.2.2.1 j hj).2.1; omega⟩)) (cwV 1 hC.S9.2.2.2.2 gL_law_X8_duckByQuacks rfl rfl rfl (by decide +kernel) ⟨Nat.le_of_ble_eq_true rfl, Nat.le_of_ble_eq_true rfl⟩) [15, 16] rfl (by decide) (SameR.cons (SameR.cons SameR.nil)) (by subst eS; rfl) hP hD hS rfl hl.1 rfl (Nat.le_of_ble_eq_true rfl) ⟨hcn, hsn⟩ dL_law_2113 (fun H locs hP hD hS => ?_)
    refine lv_istore (lv' := [(7, .int (lasF (fun b9 => rkDN (plz (vB s9.σ) (hB s9.σ) (bD s9.σ) (lD s9.σ) (uD s9.σ)) (qD s9.σ) b9 (nD s9.σ)) (nI j) (nD s9.σ))), (6, .int 0), (5, .int (nI (4 * q))), (4, .ref a.oD), (3, .ref a.oA), (2, .ref a.am), (1, .ref a.aX), (0, .ref b)]) hx hb dL_law_2116 hl (by decide) rfl (fun ls hl => ?_)
    refine lv_aload_n hx hb dL_law_2118 rfl (lv_at hl 5 rfl) ?_
    refine lw_thrown (s1 := S9) (t1 := S9) (k := 0) hC hP (by subst eS; rfl) hl.1 (Nat.le_of_ble_eq_true rfl) ⟨hcn, hsn⟩ dL_law_2119 ?_
    refine lv_iload hx hb dL_law_2122 (lv_at hl 1 rfl) ?_
    refine lv_icmp_eq (tgt := 2129) hx hb dL_law_2124 (by decide) (fun c_2124 => ?_) (fun c_2124 => ?_)
    rotate_left
    · exact absurd c_2124 (by decide)
    refine lv_iload hx hb dL_law_2129 (lv_at hl 1 rfl) ?_
    refine lv_if_ne (tgt := 2146) hx hb dL_law_2131 (by decide) (fun c_2131 => ?_) (fun c_2131 => ?_)
    · exact absurd c_2131 (by decide)
    refine lv_aload_n hx hb dL_law_2134 rfl (lv_at hl 4 rfl) ?_
    refine lv_iconst (v := 0) hx hb dL_law_2135 (by decide) ?_
    refine lw_ldL (s1 := S9) (t1 := S9) (x := (atF (fun j => rkDN (plz (vB s9.σ) (hB s9.σ) (bD s9.σ) (lD s9.σ) (uD s9.σ)) (qD s9.σ) j (nD s9.σ)) (nI j) 0 (nD s9.σ)).toInt64) hC hP (by subst eS; rfl) dL_law_2136 ?_
    refine lv_iload hx hb dL_law_2137 (lv_at hl 0 rfl) ?_
    refine lv_i2l hx hb dL_law_2139 rfl ?_
    refine m_lcmp0 hx hb (congrArg Int32.toInt64 (duck_rank hM0 hj)) dL_law_2140 ?_
    refine lv_if_eq (tgt := 2146) hx hb dL_law_2141 (by decide) (fun c_2141 => ?_) (fun c_2141 => ?_)
    rotate_left
    · exact absurd c_2141 (by decide)
    refine lv_goto (tgt := 2890) hx hb dL_law_2146 (by decide) ?_
    refine W.widen (k := cells + 1) (n := slots + 6) (by omega) (by omega) ?_
    exact kk S9 H locs ls (LI.of (LI.mono hI (by omega)) (by subst eS; rfl) (by subst eS; rfl) (by subst eS; rfl) (by subst eS; rfl) (by subst eS; rfl) (by subst eS; rfl) (by subst eS; rfl) (by subst eS; rfl) (by subst eS; rfl) (by subst eS; rfl) (by subst eS; rfl) (by subst eS; rfl) (by subst eS; rfl) (by subst eS; rfl) (by subst eS; rfl)) hP hD hS (lv_sub hl [2, 3, 4, 5, 6, 7] rfl)
  · obtain ⟨S9, eS⟩ : ∃ z : LwS, z = (LwS.mk s9.σ s9.υ s9.ς s9.hs s9.ep s9.fc s9.ml 1 s9.nx s9.ct s9.nb s9.n s9.LN s9.CM s9.ρ s9.x s9.x0 s9.f s9.gk s9.g1 s9.g2 s9.g3 s9.fb s9.fB s9.fA s9.fV s9.fP s9.fO s9.g s9.fo s9.fd) := ⟨_, rfl⟩
    refine lv_aload_n hx hb dL_law_2093 rfl (lv_at hl 4 rfl) ?_
    refine lv_aload_n hx hb dL_law_2094 rfl (lv_at hl 5 rfl) ?_
    refine lv_iload hx hb dL_law_2095 (lv_at hl 0 rfl) ?_
    refine lv_iconst (v := 1) hx hb dL_law_2097 (by decide) ?_
    refine lv_iadd hx hb dL_law_2098 ?_
    refine m_sld (v := xs (4 * q + 1)) hx hb hC.hX hC.hbl hC.hbA hS (k := 4 * q + 1) (m_add rfl rfl) (by omega) hC.hL rfl dL_law_2099 ?_
    refine lv_aload_n hx hb dL_law_2100 rfl (lv_at hl 2 rfl) ?_
    refine lw_w (mc := 1) (ms := 6) (Wc := (LCh cy a s9 s9)) (Wn := (LCh cy a S9 s9)) hC (w_duckByQuacks_t l G cy kS vS a.aX a.na a.tr a.sn s9.hs a.hi a.sc s9.ep s9.fc a.ob s9.σ (xs (4 * q + 1)) a.oA s9.fo hC.hl9 hI.1.1 hF) (vx_cwSW 3 hC.S9.2.2.2.2 gL_law_L_duckByQuacks rfl rfl rfl (by decide +kernel) ⟨Nat.le_of_ble_eq_true rfl, Nat.le_of_ble_eq_true rfl⟩) [0, 1, 24] rfl (by decide) (SameL.cons SameA.rf (SameL.cons SameA.rf (SameL.cons SameA.rf SameL.nil))) (by subst eS; rfl) hP hD hS rfl hl.1 rfl (Nat.le_of_ble_eq_true rfl) ⟨hc1, hs1⟩ dL_law_2101 (fun H locs hP hD hS => ?_)
    refine lv_istore (lv' := [(6, .int 1), (5, .int (nI (4 * q))), (4, .ref a.oD), (3, .ref a.oA), (2, .ref a.am), (1, .ref a.aX), (0, .ref b)]) hx hb dL_law_2104 hl (by decide) rfl (fun ls hl => ?_)
    refine lv_aload_n hx hb dL_law_2106 rfl (lv_at hl 4 rfl) ?_
    refine lv_aload_n hx hb dL_law_2107 rfl (lv_at hl 6 rfl) ?_
    refine lv_iload hx hb dL_law_2108 (lv_at hl 1 rfl) ?_
    refine lv_iconst (v := 1) hx hb dL_law_2110 (by decide) ?_
    refine lv_iadd hx hb dL_law_2111 ?_
    refine m_sld (v := xs (4 * q + 1)) hx hb hC.hX hC.hbl hC.hbA hS (k := 4 * q + 1) (m_add rfl rfl) (by omega) hC.hL rfl dL_law_2112 ?_
    refine lw_m (s1 := S9) (t1 := s9) (Wn := (LCh cy a S9 S9)) hC (c_X8_duckByQuacks_no l G cy a.am a.aS a.aBf a.aAs a.aSv a.aPa a.aOu a.aTx a.aCo s9.ct s9.nb s9.LN ((s9.x0).1) s9.CM s9.hs s9.th (bI (s9.x0).2) s9.ep s9.fc s9.σ (xs (4 * q + 1)) hI.1.1 hF) (cwV 1 hC.S9.2.2.2.2 gL_law_X8_duckByQuacks rfl rfl rfl (by decide +kernel) ⟨Nat.le_of_ble_eq_true rfl, Nat.le_of_ble_eq_true rfl⟩) [15, 16] rfl (by decide) (SameR.cons (SameR.cons SameR.nil)) (by subst eS; rfl) hP hD hS rfl hl.1 rfl (Nat.le_of_ble_eq_true rfl) ⟨hc1, hs1⟩ dL_law_2113 (fun H locs hP hD hS => ?_)
    refine lv_istore (lv' := [(7, .int 0), (6, .int 1), (5, .int (nI (4 * q))), (4, .ref a.oD), (3, .ref a.oA), (2, .ref a.am), (1, .ref a.aX), (0, .ref b)]) hx hb dL_law_2116 hl (by decide) rfl (fun ls hl => ?_)
    refine lv_aload_n hx hb dL_law_2118 rfl (lv_at hl 5 rfl) ?_
    refine lw_thrown (s1 := S9) (t1 := S9) (k := 1) hC hP (by subst eS; rfl) hl.1 (Nat.le_of_ble_eq_true rfl) ⟨hc1, hs1⟩ dL_law_2119 ?_
    refine lv_iload hx hb dL_law_2122 (lv_at hl 1 rfl) ?_
    refine lv_icmp_eq (tgt := 2129) hx hb dL_law_2124 (by decide) (fun c_2124 => ?_) (fun c_2124 => ?_)
    rotate_left
    · exact absurd c_2124 (by decide)
    refine lv_iload hx hb dL_law_2129 (lv_at hl 1 rfl) ?_
    refine lv_if_ne (tgt := 2146) hx hb dL_law_2131 (by decide) (fun c_2131 => ?_) (fun c_2131 => ?_)
    rotate_left
    · exact absurd c_2131 (by decide)
    refine lv_goto (tgt := 2890) hx hb dL_law_2146 (by decide) ?_
    exact kk S9 H locs ls (LI.of (LI.mono hI (by omega)) (by subst eS; rfl) (by subst eS; rfl) (by subst eS; rfl) (by subst eS; rfl) (by subst eS; rfl) (by subst eS; rfl) (by subst eS; rfl) (by subst eS; rfl) (by subst eS; rfl) (by subst eS; rfl) (by subst eS; rfl) (by subst eS; rfl) (by subst eS; rfl) (by subst eS; rfl) (by subst eS; rfl)) hP hD hS (lv_sub hl [2, 3, 4, 5, 6, 7] rfl)

set_option maxRecDepth 100000 in
set_option maxHeartbeats 4000000 in
theorem case_34 {p : Program} {l : Launch} {e : Env} {s : State} {m : MethodId} {below : List Frame} {meth : Method} {cq : Code} {G : va_G} {cy : Nat → ClassId} {kS vS : Nat → Nat} {A : Nat → Prop} {a : LA} {b L q : Nat} {xs : Nat → Int32} {Q : State → Prop} {n0 cells slots : Nat} (hC : LC l p s m meth cq G cy kS vS A b L xs) (hq : 4 * q + 4 ≤ L) (hn0 : n0 < 1000000) (hc1 : cells + 1 ≤ room_1.cells) (hs1 : slots + 6 ≤ room_1.slots) (kk : LGo p l e s m below meth cq G cy A a b q Q (n0 + 300) (cells + 1) (slots + 6) 2890) : LGo p l e s m below meth cq G cy A a b q Q n0 cells slots 2149 := by
  intro s9 H locs ls hI hP hD hS hl
  obtain ⟨hx, hb, hml, hown, hts⟩ := id hC.S9
  have hL9 := hC.hL
  have hc0 : cells + 0 ≤ room_1.cells := Nat.le_of_succ_le hc1
  have hcn : cells ≤ room_1.cells := Nat.le_of_succ_le hc1
  have hs0 : slots + 0 ≤ room_1.slots := Nat.le_trans (Nat.le_add_right slots 6) hs1
  have hsn : slots ≤ room_1.slots := Nat.le_trans (Nat.le_add_right slots 6) hs1
  have ho := hI.1.1
  have hN0 := ho.1
  have hM0 := ho.2.1
  have hE0 := ho.2.2.1
  have hnx := hI.2.2.2.2.1
  have hct := hI.2.2.2.2.2.1
  obtain ⟨S9, eS⟩ : ∃ z : LwS, z = (LwS.mk s9.σ s9.υ s9.ς s9.hs s9.ep s9.fc s9.ml 0 s9.nx s9.ct s9.nb s9.n s9.LN s9.CM s9.ρ s9.x s9.x0 s9.f s9.gk s9.g1 s9.g2 s9.g3 s9.fb s9.fB s9.fA s9.fV s9.fP s9.fO s9.g s9.fo s9.fd) := ⟨_, rfl⟩
  refine lv_aload_n hx hb dL_law_2149 rfl (lv_at hl 4 rfl) ?_
  refine c_roVi hC.S9 (c_X7_eventCount l G cy a.aX a.na a.tr a.sn s9.hs a.hi a.sc s9.ep s9.fc a.ob s9.σ hI.1.1) (cwV 0 hC.S9.2.2.2.2 gL_law_X7_eventCount rfl rfl rfl (by decide +kernel) ⟨Nat.le_of_ble_eq_true rfl, Nat.le_of_ble_eq_true rfl⟩) PB.blind (va_recv hC.hK.1 hP (ci := 11) (q0 := offs (LCh cy a s9 s9) 0 + 0) rfl ((fl_at (Wc := (LCh cy a s9 s9)) (j := 0) (i := 0) (c := [(a.aX, .inr (11, [.ref (a.na 0), .ref (a.tr 0), .ref (a.sn 0), .int s9.hs, .ref a.hi, .ref a.sc, .int s9.ep, .int s9.fc, .ref a.ob]))]) rfl (Nat.le_of_ble_eq_true rfl)).trans rfl)) (PB.at hC.hK (PpartC (Wc := (LCh cy a s9 s9)) (cs := [[(a.aX, .inr (11, [.ref (a.na 0), .ref (a.tr 0), .ref (a.sn 0), .int s9.hs, .ref a.hi, .ref a.sc, .int s9.ep, .int s9.fc, .ref a.ob]))], sWd cy a.na s9.σ]) hP [0, 1] rfl)) rfl hl.1 rfl (Nat.le_of_ble_eq_true rfl) ⟨hcn, hsn⟩ dL_law_2150 ?_
  refine lv_aload_n hx hb dL_law_2153 rfl (lv_at hl 3 rfl) ?_
  refine lw_m (s1 := s9) (t1 := s9) (Wn := (LCh cy a s9 S9)) hC (c_X8_eventCount l G cy a.am a.aS a.aBf a.aAs a.aSv a.aPa a.aOu a.aTx a.aCo s9.ct s9.nb s9.LN ((s9.x0).1) s9.CM s9.hs s9.th (bI (s9.x0).2) s9.ep s9.fc s9.σ hI.1.1) (cwV 0 hC.S9.2.2.2.2 gL_law_X8_eventCount rfl rfl rfl (by decide +kernel) ⟨Nat.le_of_ble_eq_true rfl, Nat.le_of_ble_eq_true rfl⟩) [15, 16] rfl (by decide) (SameR.cons (SameR.cons SameR.nil)) (by subst eS; rfl) hP hD hS rfl hl.1 rfl (Nat.le_of_ble_eq_true rfl) ⟨hcn, hsn⟩ dL_law_2154 (fun H locs hP hD hS => ?_)
  refine lv_icmp_eq (tgt := 2890) hx hb dL_law_2157 (by decide) (fun c_2157 => ?_) (fun c_2157 => ?_)
  rotate_left
  · exact absurd rfl c_2157
  have hP : va_P G vwCl (fl (LCh cy a S9 S9)) H := by rw [LCh.left (s := s9) (by subst eS; rfl) (by subst eS; rfl) (by subst eS; rfl) (by subst eS; rfl) (by subst eS; rfl) (by subst eS; rfl) (by subst eS; rfl) (by subst eS; rfl) (by subst eS; rfl) (by subst eS; rfl) (by subst eS; rfl) (by subst eS; rfl) (by subst eS; rfl) (by subst eS; rfl) (by subst eS; rfl) (by subst eS; rfl) (by subst eS; rfl) (by subst eS; rfl) (by subst eS; rfl) (by subst eS; rfl) (by subst eS; rfl) (by subst eS; rfl)]; exact hP
  have hD : va_D A (fl (LCh cy a S9 S9)) := by rw [LCh.left (s := s9) (by subst eS; rfl) (by subst eS; rfl) (by subst eS; rfl) (by subst eS; rfl) (by subst eS; rfl) (by subst eS; rfl) (by subst eS; rfl) (by subst eS; rfl) (by subst eS; rfl) (by subst eS; rfl) (by subst eS; rfl) (by subst eS; rfl) (by subst eS; rfl) (by subst eS; rfl) (by subst eS; rfl) (by subst eS; rfl) (by subst eS; rfl) (by subst eS; rfl) (by subst eS; rfl) (by subst eS; rfl) (by subst eS; rfl) (by subst eS; rfl)]; exact hD
  refine W.widen (k := cells + 1) (n := slots + 6) (by omega) (by omega) ?_
  exact kk S9 H locs ls (LI.of (LI.mono hI (by omega)) (by subst eS; rfl) (by subst eS; rfl) (by subst eS; rfl) (by subst eS; rfl) (by subst eS; rfl) (by subst eS; rfl) (by subst eS; rfl) (by subst eS; rfl) (by subst eS; rfl) (by subst eS; rfl) (by subst eS; rfl) (by subst eS; rfl) (by subst eS; rfl) (by subst eS; rfl) (by subst eS; rfl)) hP hD hS (lv_sub hl [0, 1, 2, 3, 4, 5] rfl)

set_option maxRecDepth 100000 in
set_option maxHeartbeats 4000000 in
theorem case_35 {p : Program} {l : Launch} {e : Env} {s : State} {m : MethodId} {below : List Frame} {meth : Method} {cq : Code} {G : va_G} {cy : Nat → ClassId} {kS vS : Nat → Nat} {A : Nat → Prop} {a : LA} {b L q : Nat} {xs : Nat → Int32} {Q : State → Prop} {n0 cells slots : Nat} (hC : LC l p s m meth cq G cy kS vS A b L xs) (hq : 4 * q + 4 ≤ L) (hn0 : n0 < 1000000) (hc1 : cells + 1 ≤ room_1.cells) (hs1 : slots + 6 ≤ room_1.slots) (kk : LGo p l e s m below meth cq G cy A a b q Q (n0 + 300) (cells + 1) (slots + 6) 2890) : LGo p l e s m below meth cq G cy A a b q Q n0 cells slots 2162 := by
  intro s9 H locs ls hI hP hD hS hl
  obtain ⟨hx, hb, hml, hown, hts⟩ := id hC.S9
  have hL9 := hC.hL
  have hc0 : cells + 0 ≤ room_1.cells := Nat.le_of_succ_le hc1
  have hcn : cells ≤ room_1.cells := Nat.le_of_succ_le hc1
  have hs0 : slots + 0 ≤ room_1.slots := Nat.le_trans (Nat.le_add_right slots 6) hs1
  have hsn : slots ≤ room_1.slots := Nat.le_trans (Nat.le_add_right slots 6) hs1
  have ho := hI.1.1
  have hN0 := ho.1
  have hM0 := ho.2.1
  have hE0 := ho.2.2.1
  have hnx := hI.2.2.2.2.1
  have hct := hI.2.2.2.2.2.1
  by_cases hF : inI (xs (4 * q + 1)) (nI (nE s9.σ)) = true
  · obtain ⟨j, hj, e1⟩ := ix_of (by omega) hF
    obtain ⟨S9, eS⟩ : ∃ z : LwS, z = (LwS.mk s9.σ s9.υ s9.ς s9.hs s9.ep s9.fc s9.ml 0 s9.nx s9.ct s9.nb s9.n s9.LN s9.CM s9.ρ s9.x s9.x0 s9.f s9.gk s9.g1 s9.g2 s9.g3 s9.fb s9.fB s9.fA s9.fV s9.fP s9.fO s9.g (fun _ => (kE s9.σ j).toInt64) s9.fd) := ⟨_, rfl⟩
    refine lv_aload_n hx hb dL_law_2162 rfl (lv_at hl 4 rfl) ?_
    refine lv_aload_n hx hb dL_law_2163 rfl (lv_at hl 5 rfl) ?_
    refine lv_iload hx hb dL_law_2164 (lv_at hl 0 rfl) ?_
    refine lv_iconst (v := 1) hx hb dL_law_2166 (by decide) ?_
    refine lv_iadd hx hb dL_law_2167 ?_
    refine m_sld (v := nI j) hx hb hC.hX hC.hbl hC.hbA hS (k := 4 * q + 1) (m_add rfl rfl) (by omega) hC.hL e1 dL_law_2168 ?_
    refine lv_aload_n hx hb dL_law_2169 rfl (lv_at hl 2 rfl) ?_
    refine lw_w (mc := 0) (ms := 0) (Wc := (LCh cy a s9 s9)) (Wn := (LCh cy a S9 s9)) hC (w_eventKind_ok l G cy kS vS a.aX a.na a.tr a.sn s9.hs a.hi a.sc s9.ep s9.fc a.ob s9.σ j a.oA s9.fo hI.1.1 hj) (vx_cwSW 3 hC.S9.2.2.2.2 gL_law_L_eventKind rfl rfl rfl (by decide +kernel) ⟨Nat.le_of_ble_eq_true rfl, Nat.le_of_ble_eq_true rfl⟩) [0, 1, 24] rfl (by decide) (SameL.cons SameA.rf (SameL.cons SameA.rf (SameL.cons SameA.one SameL.nil))) (by subst eS; rfl) hP hD hS rfl hl.1 rfl (Nat.le_of_ble_eq_true rfl) ⟨hc0, hs0⟩ dL_law_2170 (fun H locs hP hD hS => ?_)
    refine lv_istore (lv' := [(6, .int 0), (5, .int (nI (4 * q))), (4, .ref a.oD), (3, .ref a.oA), (2, .ref a.am), (1, .ref a.aX), (0, .ref b)]) hx hb dL_law_2173 hl (by decide) rfl (fun ls hl => ?_)
    refine lv_aload_n hx hb dL_law_2175 rfl (lv_at hl 4 rfl) ?_
    refine lv_aload_n hx hb dL_law_2176 rfl (lv_at hl 6 rfl) ?_
    refine lv_iload hx hb dL_law_2177 (lv_at hl 1 rfl) ?_
    refine lv_iconst (v := 1) hx hb dL_law_2179 (by decide) ?_
    refine lv_iadd hx hb dL_law_2180 ?_
    refine m_sld (v := nI j) hx hb hC.hX hC.hbl hC.hbA hS (k := 4 * q + 1) (m_add rfl rfl) (by omega) hC.hL e1 dL_law_2181 ?_
    refine lw_m (s1 := S9) (t1 := s9) (Wn := (LCh cy a S9 S9)) hC (c_X8_eventKind_ok l G cy a.am a.aS a.aBf a.aAs a.aSv a.aPa a.aOu a.aTx a.aCo s9.ct s9.nb s9.LN ((s9.x0).1) s9.CM s9.hs s9.th (bI (s9.x0).2) s9.ep s9.fc s9.σ j hI.1.1 hj) (cwV 1 hC.S9.2.2.2.2 gL_law_X8_eventKind rfl rfl rfl (by decide +kernel) ⟨Nat.le_of_ble_eq_true rfl, Nat.le_of_ble_eq_true rfl⟩) [15, 16] rfl (by decide) (SameR.cons (SameR.cons SameR.nil)) (by subst eS; rfl) hP hD hS rfl hl.1 rfl (Nat.le_of_ble_eq_true rfl) ⟨hcn, hsn⟩ dL_law_2182 (fun H locs hP hD hS => ?_)
    refine lv_istore (lv' := [(7, .int (kE s9.σ j)), (6, .int 0), (5, .int (nI (4 * q))), (4, .ref a.oD), (3, .ref a.oA), (2, .ref a.am), (1, .ref a.aX), (0, .ref b)]) hx hb dL_law_2185 hl (by decide) rfl (fun ls hl => ?_)
    refine lv_aload_n hx hb dL_law_2187 rfl (lv_at hl 5 rfl) ?_
    refine lw_thrown (s1 := S9) (t1 := S9) (k := 0) hC hP (by subst eS; rfl) hl.1 (Nat.le_of_ble_eq_true rfl) ⟨hcn, hsn⟩ dL_law_2188 ?_
    refine lv_iload hx hb dL_law_2191 (lv_at hl 1 rfl) ?_
    refine lv_icmp_eq (tgt := 2198) hx hb dL_law_2193 (by decide) (fun c_2193 => ?_) (fun c_2193 => ?_)
    rotate_left
    · exact absurd c_2193 (by decide)
    refine lv_iload hx hb dL_law_2198 (lv_at hl 1 rfl) ?_
    refine lv_if_ne (tgt := 2215) hx hb dL_law_2200 (by decide) (fun c_2200 => ?_) (fun c_2200 => ?_)
    · exact absurd c_2200 (by decide)
    refine lv_aload_n hx hb dL_law_2203 rfl (lv_at hl 4 rfl) ?_
    refine lv_iconst (v := 0) hx hb dL_law_2204 (by decide) ?_
    refine lw_ldL (s1 := S9) (t1 := S9) (x := (kE s9.σ j).toInt64) hC hP (by subst eS; rfl) dL_law_2205 ?_
    refine lv_iload hx hb dL_law_2206 (lv_at hl 0 rfl) ?_
    refine lv_i2l hx hb dL_law_2208 rfl ?_
    refine m_lcmp0 hx hb rfl dL_law_2209 ?_
    refine lv_if_eq (tgt := 2215) hx hb dL_law_2210 (by decide) (fun c_2210 => ?_) (fun c_2210 => ?_)
    rotate_left
    · exact absurd c_2210 (by decide)
    refine lv_goto (tgt := 2890) hx hb dL_law_2215 (by decide) ?_
    refine W.widen (k := cells + 1) (n := slots + 6) (by omega) (by omega) ?_
    exact kk S9 H locs ls (LI.of (LI.mono hI (by omega)) (by subst eS; rfl) (by subst eS; rfl) (by subst eS; rfl) (by subst eS; rfl) (by subst eS; rfl) (by subst eS; rfl) (by subst eS; rfl) (by subst eS; rfl) (by subst eS; rfl) (by subst eS; rfl) (by subst eS; rfl) (by subst eS; rfl) (by subst eS; rfl) (by subst eS; rfl) (by subst eS; rfl)) hP hD hS (lv_sub hl [2, 3, 4, 5, 6, 7] rfl)
  · obtain ⟨S9, eS⟩ : ∃ z : LwS, z = (LwS.mk s9.σ s9.υ s9.ς s9.hs s9.ep s9.fc s9.ml 1 s9.nx s9.ct s9.nb s9.n s9.LN s9.CM s9.ρ s9.x s9.x0 s9.f s9.gk s9.g1 s9.g2 s9.g3 s9.fb s9.fB s9.fA s9.fV s9.fP s9.fO s9.g s9.fo s9.fd) := ⟨_, rfl⟩
    refine lv_aload_n hx hb dL_law_2162 rfl (lv_at hl 4 rfl) ?_
    refine lv_aload_n hx hb dL_law_2163 rfl (lv_at hl 5 rfl) ?_
    refine lv_iload hx hb dL_law_2164 (lv_at hl 0 rfl) ?_
    refine lv_iconst (v := 1) hx hb dL_law_2166 (by decide) ?_
    refine lv_iadd hx hb dL_law_2167 ?_
    refine m_sld (v := xs (4 * q + 1)) hx hb hC.hX hC.hbl hC.hbA hS (k := 4 * q + 1) (m_add rfl rfl) (by omega) hC.hL rfl dL_law_2168 ?_
    refine lv_aload_n hx hb dL_law_2169 rfl (lv_at hl 2 rfl) ?_
    refine lw_w (mc := 1) (ms := 6) (Wc := (LCh cy a s9 s9)) (Wn := (LCh cy a S9 s9)) hC (w_eventKind_t l G cy kS vS a.aX a.na a.tr a.sn s9.hs a.hi a.sc s9.ep s9.fc a.ob s9.σ (xs (4 * q + 1)) a.oA s9.fo hC.hl9 hI.1.1 hF) (vx_cwSW 3 hC.S9.2.2.2.2 gL_law_L_eventKind rfl rfl rfl (by decide +kernel) ⟨Nat.le_of_ble_eq_true rfl, Nat.le_of_ble_eq_true rfl⟩) [0, 1, 24] rfl (by decide) (SameL.cons SameA.rf (SameL.cons SameA.rf (SameL.cons SameA.rf SameL.nil))) (by subst eS; rfl) hP hD hS rfl hl.1 rfl (Nat.le_of_ble_eq_true rfl) ⟨hc1, hs1⟩ dL_law_2170 (fun H locs hP hD hS => ?_)
    refine lv_istore (lv' := [(6, .int 1), (5, .int (nI (4 * q))), (4, .ref a.oD), (3, .ref a.oA), (2, .ref a.am), (1, .ref a.aX), (0, .ref b)]) hx hb dL_law_2173 hl (by decide) rfl (fun ls hl => ?_)
    refine lv_aload_n hx hb dL_law_2175 rfl (lv_at hl 4 rfl) ?_
    refine lv_aload_n hx hb dL_law_2176 rfl (lv_at hl 6 rfl) ?_
    refine lv_iload hx hb dL_law_2177 (lv_at hl 1 rfl) ?_
    refine lv_iconst (v := 1) hx hb dL_law_2179 (by decide) ?_
    refine lv_iadd hx hb dL_law_2180 ?_
    refine m_sld (v := xs (4 * q + 1)) hx hb hC.hX hC.hbl hC.hbA hS (k := 4 * q + 1) (m_add rfl rfl) (by omega) hC.hL rfl dL_law_2181 ?_
    refine lw_m (s1 := S9) (t1 := s9) (Wn := (LCh cy a S9 S9)) hC (c_X8_eventKind_no l G cy a.am a.aS a.aBf a.aAs a.aSv a.aPa a.aOu a.aTx a.aCo s9.ct s9.nb s9.LN ((s9.x0).1) s9.CM s9.hs s9.th (bI (s9.x0).2) s9.ep s9.fc s9.σ (xs (4 * q + 1)) hI.1.1 hF) (cwV 1 hC.S9.2.2.2.2 gL_law_X8_eventKind rfl rfl rfl (by decide +kernel) ⟨Nat.le_of_ble_eq_true rfl, Nat.le_of_ble_eq_true rfl⟩) [15, 16] rfl (by decide) (SameR.cons (SameR.cons SameR.nil)) (by subst eS; rfl) hP hD hS rfl hl.1 rfl (Nat.le_of_ble_eq_true rfl) ⟨hc1, hs1⟩ dL_law_2182 (fun H locs hP hD hS => ?_)
    refine lv_istore (lv' := [(7, .int 32), (6, .int 1), (5, .int (nI (4 * q))), (4, .ref a.oD), (3, .ref a.oA), (2, .ref a.am), (1, .ref a.aX), (0, .ref b)]) hx hb dL_law_2185 hl (by decide) rfl (fun ls hl => ?_)
    refine lv_aload_n hx hb dL_law_2187 rfl (lv_at hl 5 rfl) ?_
    refine lw_thrown (s1 := S9) (t1 := S9) (k := 1) hC hP (by subst eS; rfl) hl.1 (Nat.le_of_ble_eq_true rfl) ⟨hc1, hs1⟩ dL_law_2188 ?_
    refine lv_iload hx hb dL_law_2191 (lv_at hl 1 rfl) ?_
    refine lv_icmp_eq (tgt := 2198) hx hb dL_law_2193 (by decide) (fun c_2193 => ?_) (fun c_2193 => ?_)
    rotate_left
    · exact absurd c_2193 (by decide)
    refine lv_iload hx hb dL_law_2198 (lv_at hl 1 rfl) ?_
    refine lv_if_ne (tgt := 2215) hx hb dL_law_2200 (by decide) (fun c_2200 => ?_) (fun c_2200 => ?_)
    rotate_left
    · exact absurd c_2200 (by decide)
    refine lv_goto (tgt := 2890) hx hb dL_law_2215 (by decide) ?_
    exact kk S9 H locs ls (LI.of (LI.mono hI (by omega)) (by subst eS; rfl) (by subst eS; rfl) (by subst eS; rfl) (by subst eS; rfl) (by subst eS; rfl) (by subst eS; rfl) (by subst eS; rfl) (by subst eS; rfl) (by subst eS; rfl) (by subst eS; rfl) (by subst eS; rfl) (by subst eS; rfl) (by subst eS; rfl) (by subst eS; rfl) (by subst eS; rfl)) hP hD hS (lv_sub hl [2, 3, 4, 5, 6, 7] rfl)

set_option maxRecDepth 100000 in
set_option maxHeartbeats 4000000 in
theorem case_36 {p : Program} {l : Launch} {e : Env} {s : State} {m : MethodId} {below : List Frame} {meth : Method} {cq : Code} {G : va_G} {cy : Nat → ClassId} {kS vS : Nat → Nat} {A : Nat → Prop} {a : LA} {b L q : Nat} {xs : Nat → Int32} {Q : State → Prop} {n0 cells slots : Nat} (hC : LC l p s m meth cq G cy kS vS A b L xs) (hq : 4 * q + 4 ≤ L) (hn0 : n0 < 1000000) (hc1 : cells + 1 ≤ room_1.cells) (hs1 : slots + 6 ≤ room_1.slots) (kk : LGo p l e s m below meth cq G cy A a b q Q (n0 + 300) (cells + 1) (slots + 6) 2890) : LGo p l e s m below meth cq G cy A a b q Q n0 cells slots 2218 := by
  intro s9 H locs ls hI hP hD hS hl
  obtain ⟨hx, hb, hml, hown, hts⟩ := id hC.S9
  have hL9 := hC.hL
  have hc0 : cells + 0 ≤ room_1.cells := Nat.le_of_succ_le hc1
  have hcn : cells ≤ room_1.cells := Nat.le_of_succ_le hc1
  have hs0 : slots + 0 ≤ room_1.slots := Nat.le_trans (Nat.le_add_right slots 6) hs1
  have hsn : slots ≤ room_1.slots := Nat.le_trans (Nat.le_add_right slots 6) hs1
  have ho := hI.1.1
  have hN0 := ho.1
  have hM0 := ho.2.1
  have hE0 := ho.2.2.1
  have hnx := hI.2.2.2.2.1
  have hct := hI.2.2.2.2.2.1
  by_cases hF : inI (xs (4 * q + 1)) (nI (nE s9.σ)) = true
  · obtain ⟨j, hj, e1⟩ := ix_of (by omega) hF
    obtain ⟨S9, eS⟩ : ∃ z : LwS, z = (LwS.mk s9.σ s9.υ s9.ς s9.hs s9.ep s9.fc s9.ml 0 s9.nx s9.ct s9.nb s9.n s9.LN s9.CM s9.ρ s9.x s9.x0 s9.f s9.gk s9.g1 s9.g2 s9.g3 s9.fb s9.fB s9.fA s9.fV s9.fP s9.fO s9.g (fun _ => (bE s9.σ j).toInt64) s9.fd) := ⟨_, rfl⟩
    refine lv_aload_n hx hb dL_law_2218 rfl (lv_at hl 4 rfl) ?_
    refine lv_aload_n hx hb dL_law_2219 rfl (lv_at hl 5 rfl) ?_
    refine lv_iload hx hb dL_law_2220 (lv_at hl 0 rfl) ?_
    refine lv_iconst (v := 1) hx hb dL_law_2222 (by decide) ?_
    refine lv_iadd hx hb dL_law_2223 ?_
    refine m_sld (v := nI j) hx hb hC.hX hC.hbl hC.hbA hS (k := 4 * q + 1) (m_add rfl rfl) (by omega) hC.hL e1 dL_law_2224 ?_
    refine lv_aload_n hx hb dL_law_2225 rfl (lv_at hl 2 rfl) ?_
    refine lw_w (mc := 0) (ms := 0) (Wc := (LCh cy a s9 s9)) (Wn := (LCh cy a S9 s9)) hC (w_eventBath_ok l G cy kS vS a.aX a.na a.tr a.sn s9.hs a.hi a.sc s9.ep s9.fc a.ob s9.σ j a.oA s9.fo hI.1.1 hj) (vx_cwSW 3 hC.S9.2.2.2.2 gL_law_L_eventBath rfl rfl rfl (by decide +kernel) ⟨Nat.le_of_ble_eq_true rfl, Nat.le_of_ble_eq_true rfl⟩) [0, 1, 24] rfl (by decide) (SameL.cons SameA.rf (SameL.cons SameA.rf (SameL.cons SameA.one SameL.nil))) (by subst eS; rfl) hP hD hS rfl hl.1 rfl (Nat.le_of_ble_eq_true rfl) ⟨hc0, hs0⟩ dL_law_2226 (fun H locs hP hD hS => ?_)
    refine lv_istore (lv' := [(6, .int 0), (5, .int (nI (4 * q))), (4, .ref a.oD), (3, .ref a.oA), (2, .ref a.am), (1, .ref a.aX), (0, .ref b)]) hx hb dL_law_2229 hl (by decide) rfl (fun ls hl => ?_)
    refine lv_aload_n hx hb dL_law_2231 rfl (lv_at hl 4 rfl) ?_
    refine lv_aload_n hx hb dL_law_2232 rfl (lv_at hl 6 rfl) ?_
    refine lv_iload hx hb dL_law_2233 (lv_at hl 1 rfl) ?_
    refine lv_iconst (v := 1) hx hb dL_law_2235 (by decide) ?_
    refine lv_iadd hx hb dL_law_2236 ?_
    refine m_sld (v := nI j) hx hb hC.hX hC.hbl hC.hbA hS (k := 4 * q + 1) (m_add rfl rfl) (by omega) hC.hL e1 dL_law_2237 ?_
    refine lw_m (s1 := S9) (t1 := s9) (Wn := (LCh cy a S9 S9)) hC (c_X8_eventBath_ok l G cy a.am a.aS a.aBf a.aAs a.aSv a.aPa a.aOu a.aTx a.aCo s9.ct s9.nb s9.LN ((s9.x0).1) s9.CM s9.hs s9.th (bI (s9.x0).2) s9.ep s9.fc s9.σ j hI.1.1 hj) (cwV 1 hC.S9.2.2.2.2 gL_law_X8_eventBath rfl rfl rfl (by decide +kernel) ⟨Nat.le_of_ble_eq_true rfl, Nat.le_of_ble_eq_true rfl⟩) [15, 16] rfl (by decide) (SameR.cons (SameR.cons SameR.nil)) (by subst eS; rfl) hP hD hS rfl hl.1 rfl (Nat.le_of_ble_eq_true rfl) ⟨hcn, hsn⟩ dL_law_2238 (fun H locs hP hD hS => ?_)
    refine lv_istore (lv' := [(7, .int (bE s9.σ j)), (6, .int 0), (5, .int (nI (4 * q))), (4, .ref a.oD), (3, .ref a.oA), (2, .ref a.am), (1, .ref a.aX), (0, .ref b)]) hx hb dL_law_2241 hl (by decide) rfl (fun ls hl => ?_)
    refine lv_aload_n hx hb dL_law_2243 rfl (lv_at hl 5 rfl) ?_
    refine lw_thrown (s1 := S9) (t1 := S9) (k := 0) hC hP (by subst eS; rfl) hl.1 (Nat.le_of_ble_eq_true rfl) ⟨hcn, hsn⟩ dL_law_2244 ?_
    refine lv_iload hx hb dL_law_2247 (lv_at hl 1 rfl) ?_
    refine lv_icmp_eq (tgt := 2254) hx hb dL_law_2249 (by decide) (fun c_2249 => ?_) (fun c_2249 => ?_)
    rotate_left
    · exact absurd c_2249 (by decide)
    refine lv_iload hx hb dL_law_2254 (lv_at hl 1 rfl) ?_
    refine lv_if_ne (tgt := 2271) hx hb dL_law_2256 (by decide) (fun c_2256 => ?_) (fun c_2256 => ?_)
    · exact absurd c_2256 (by decide)
    refine lv_aload_n hx hb dL_law_2259 rfl (lv_at hl 4 rfl) ?_
    refine lv_iconst (v := 0) hx hb dL_law_2260 (by decide) ?_
    refine lw_ldL (s1 := S9) (t1 := S9) (x := (bE s9.σ j).toInt64) hC hP (by subst eS; rfl) dL_law_2261 ?_
    refine lv_iload hx hb dL_law_2262 (lv_at hl 0 rfl) ?_
    refine lv_i2l hx hb dL_law_2264 rfl ?_
    refine m_lcmp0 hx hb rfl dL_law_2265 ?_
    refine lv_if_eq (tgt := 2271) hx hb dL_law_2266 (by decide) (fun c_2266 => ?_) (fun c_2266 => ?_)
    rotate_left
    · exact absurd c_2266 (by decide)
    refine lv_goto (tgt := 2890) hx hb dL_law_2271 (by decide) ?_
    refine W.widen (k := cells + 1) (n := slots + 6) (by omega) (by omega) ?_
    exact kk S9 H locs ls (LI.of (LI.mono hI (by omega)) (by subst eS; rfl) (by subst eS; rfl) (by subst eS; rfl) (by subst eS; rfl) (by subst eS; rfl) (by subst eS; rfl) (by subst eS; rfl) (by subst eS; rfl) (by subst eS; rfl) (by subst eS; rfl) (by subst eS; rfl) (by subst eS; rfl) (by subst eS; rfl) (by subst eS; rfl) (by subst eS; rfl)) hP hD hS (lv_sub hl [2, 3, 4, 5, 6, 7] rfl)
  · obtain ⟨S9, eS⟩ : ∃ z : LwS, z = (LwS.mk s9.σ s9.υ s9.ς s9.hs s9.ep s9.fc s9.ml 1 s9.nx s9.ct s9.nb s9.n s9.LN s9.CM s9.ρ s9.x s9.x0 s9.f s9.gk s9.g1 s9.g2 s9.g3 s9.fb s9.fB s9.fA s9.fV s9.fP s9.fO s9.g s9.fo s9.fd) := ⟨_, rfl⟩
    refine lv_aload_n hx hb dL_law_2218 rfl (lv_at hl 4 rfl) ?_
    refine lv_aload_n hx hb dL_law_2219 rfl (lv_at hl 5 rfl) ?_
    refine lv_iload hx hb dL_law_2220 (lv_at hl 0 rfl) ?_
    refine lv_iconst (v := 1) hx hb dL_law_2222 (by decide) ?_
    refine lv_iadd hx hb dL_law_2223 ?_
    refine m_sld (v := xs (4 * q + 1)) hx hb hC.hX hC.hbl hC.hbA hS (k := 4 * q + 1) (m_add rfl rfl) (by omega) hC.hL rfl dL_law_2224 ?_
    refine lv_aload_n hx hb dL_law_2225 rfl (lv_at hl 2 rfl) ?_
    refine lw_w (mc := 1) (ms := 6) (Wc := (LCh cy a s9 s9)) (Wn := (LCh cy a S9 s9)) hC (w_eventBath_t l G cy kS vS a.aX a.na a.tr a.sn s9.hs a.hi a.sc s9.ep s9.fc a.ob s9.σ (xs (4 * q + 1)) a.oA s9.fo hC.hl9 hI.1.1 hF) (vx_cwSW 3 hC.S9.2.2.2.2 gL_law_L_eventBath rfl rfl rfl (by decide +kernel) ⟨Nat.le_of_ble_eq_true rfl, Nat.le_of_ble_eq_true rfl⟩) [0, 1, 24] rfl (by decide) (SameL.cons SameA.rf (SameL.cons SameA.rf (SameL.cons SameA.rf SameL.nil))) (by subst eS; rfl) hP hD hS rfl hl.1 rfl (Nat.le_of_ble_eq_true rfl) ⟨hc1, hs1⟩ dL_law_2226 (fun H locs hP hD hS => ?_)
    refine lv_istore (lv' := [(6, .int 1), (5, .int (nI (4 * q))), (4, .ref a.oD), (3, .ref a.oA), (2, .ref a.am), (1, .ref a.aX), (0, .ref b)]) hx hb dL_law_2229 hl (by decide) rfl (fun ls hl => ?_)
    refine lv_aload_n hx hb dL_law_2231 rfl (lv_at hl 4 rfl) ?_
    refine lv_aload_n hx hb dL_law_2232 rfl (lv_at hl 6 rfl) ?_
    refine lv_iload hx hb dL_law_2233 (lv_at hl 1 rfl) ?_
    refine lv_iconst (v := 1) hx hb dL_law_2235 (by decide) ?_
    refine lv_iadd hx hb dL_law_2236 ?_
    refine m_sld (v := xs (4 * q + 1)) hx hb hC.hX hC.hbl hC.hbA hS (k := 4 * q + 1) (m_add rfl rfl) (by omega) hC.hL rfl dL_law_2237 ?_
    refine lw_m (s1 := S9) (t1 := s9) (Wn := (LCh cy a S9 S9)) hC (c_X8_eventBath_no l G cy a.am a.aS a.aBf a.aAs a.aSv a.aPa a.aOu a.aTx a.aCo s9.ct s9.nb s9.LN ((s9.x0).1) s9.CM s9.hs s9.th (bI (s9.x0).2) s9.ep s9.fc s9.σ (xs (4 * q + 1)) hI.1.1 hF) (cwV 1 hC.S9.2.2.2.2 gL_law_X8_eventBath rfl rfl rfl (by decide +kernel) ⟨Nat.le_of_ble_eq_true rfl, Nat.le_of_ble_eq_true rfl⟩) [15, 16] rfl (by decide) (SameR.cons (SameR.cons SameR.nil)) (by subst eS; rfl) hP hD hS rfl hl.1 rfl (Nat.le_of_ble_eq_true rfl) ⟨hc1, hs1⟩ dL_law_2238 (fun H locs hP hD hS => ?_)
    refine lv_istore (lv' := [(7, .int 0), (6, .int 1), (5, .int (nI (4 * q))), (4, .ref a.oD), (3, .ref a.oA), (2, .ref a.am), (1, .ref a.aX), (0, .ref b)]) hx hb dL_law_2241 hl (by decide) rfl (fun ls hl => ?_)
    refine lv_aload_n hx hb dL_law_2243 rfl (lv_at hl 5 rfl) ?_
    refine lw_thrown (s1 := S9) (t1 := S9) (k := 1) hC hP (by subst eS; rfl) hl.1 (Nat.le_of_ble_eq_true rfl) ⟨hc1, hs1⟩ dL_law_2244 ?_
    refine lv_iload hx hb dL_law_2247 (lv_at hl 1 rfl) ?_
    refine lv_icmp_eq (tgt := 2254) hx hb dL_law_2249 (by decide) (fun c_2249 => ?_) (fun c_2249 => ?_)
    rotate_left
    · exact absurd c_2249 (by decide)
    refine lv_iload hx hb dL_law_2254 (lv_at hl 1 rfl) ?_
    refine lv_if_ne (tgt := 2271) hx hb dL_law_2256 (by decide) (fun c_2256 => ?_) (fun c_2256 => ?_)
    rotate_left
    · exact absurd c_2256 (by decide)
    refine lv_goto (tgt := 2890) hx hb dL_law_2271 (by decide) ?_
    exact kk S9 H locs ls (LI.of (LI.mono hI (by omega)) (by subst eS; rfl) (by subst eS; rfl) (by subst eS; rfl) (by subst eS; rfl) (by subst eS; rfl) (by subst eS; rfl) (by subst eS; rfl) (by subst eS; rfl) (by subst eS; rfl) (by subst eS; rfl) (by subst eS; rfl) (by subst eS; rfl) (by subst eS; rfl) (by subst eS; rfl) (by subst eS; rfl)) hP hD hS (lv_sub hl [2, 3, 4, 5, 6, 7] rfl)

set_option maxRecDepth 100000 in
set_option maxHeartbeats 4000000 in
theorem case_37 {p : Program} {l : Launch} {e : Env} {s : State} {m : MethodId} {below : List Frame} {meth : Method} {cq : Code} {G : va_G} {cy : Nat → ClassId} {kS vS : Nat → Nat} {A : Nat → Prop} {a : LA} {b L q : Nat} {xs : Nat → Int32} {Q : State → Prop} {n0 cells slots : Nat} (hC : LC l p s m meth cq G cy kS vS A b L xs) (hq : 4 * q + 4 ≤ L) (hn0 : n0 < 1000000) (hc1 : cells + 1 ≤ room_1.cells) (hs1 : slots + 6 ≤ room_1.slots) (kk : LGo p l e s m below meth cq G cy A a b q Q (n0 + 300) (cells + 1) (slots + 6) 2890) : LGo p l e s m below meth cq G cy A a b q Q n0 cells slots 2274 := by
  intro s9 H locs ls hI hP hD hS hl
  obtain ⟨hx, hb, hml, hown, hts⟩ := id hC.S9
  have hL9 := hC.hL
  have hc0 : cells + 0 ≤ room_1.cells := Nat.le_of_succ_le hc1
  have hcn : cells ≤ room_1.cells := Nat.le_of_succ_le hc1
  have hs0 : slots + 0 ≤ room_1.slots := Nat.le_trans (Nat.le_add_right slots 6) hs1
  have hsn : slots ≤ room_1.slots := Nat.le_trans (Nat.le_add_right slots 6) hs1
  have ho := hI.1.1
  have hN0 := ho.1
  have hM0 := ho.2.1
  have hE0 := ho.2.2.1
  have hnx := hI.2.2.2.2.1
  have hct := hI.2.2.2.2.2.1
  by_cases hF : inI (xs (4 * q + 1)) (nI (nE s9.σ)) = true
  · obtain ⟨j, hj, e1⟩ := ix_of (by omega) hF
    rcases hI.1.2.2.2.2.1 j hj with hl7 | hl7
    · obtain ⟨S9, eS⟩ : ∃ z : LwS, z = (LwS.mk s9.σ s9.υ s9.ς s9.hs s9.ep s9.fc s9.ml 1 s9.nx s9.ct s9.nb s9.n s9.LN s9.CM s9.ρ s9.x s9.x0 s9.f s9.gk s9.g1 s9.g2 s9.g3 s9.fb s9.fB s9.fA s9.fV s9.fP s9.fO s9.g s9.fo s9.fd) := ⟨_, rfl⟩
      refine lv_aload_n hx hb dL_law_2274 rfl (lv_at hl 4 rfl) ?_
      refine lv_aload_n hx hb dL_law_2275 rfl (lv_at hl 5 rfl) ?_
      refine lv_iload hx hb dL_law_2276 (lv_at hl 0 rfl) ?_
      refine lv_iconst (v := 1) hx hb dL_law_2278 (by decide) ?_
      refine lv_iadd hx hb dL_law_2279 ?_
      refine m_sld (v := nI j) hx hb hC.hX hC.hbl hC.hbA hS (k := 4 * q + 1) (m_add rfl rfl) (by omega) hC.hL e1 dL_law_2280 ?_
      refine lv_aload_n hx hb dL_law_2281 rfl (lv_at hl 2 rfl) ?_
      refine lw_w (mc := 1) (ms := 6) (Wc := (LCh cy a s9 s9)) (Wn := (LCh cy a S9 s9)) hC (w_eventLitres_2 l G cy kS vS a.aX a.na a.tr a.sn s9.hs a.hi a.sc s9.ep s9.fc a.ob s9.σ j a.oA s9.fo hC.hl9 hI.1.1 hj hl7) (vx_cwSW 3 hC.S9.2.2.2.2 gL_law_L_eventLitres rfl rfl rfl (by decide +kernel) ⟨Nat.le_of_ble_eq_true rfl, Nat.le_of_ble_eq_true rfl⟩) [0, 1, 24] rfl (by decide) (SameL.cons SameA.rf (SameL.cons SameA.rf (SameL.cons SameA.rf SameL.nil))) (by subst eS; rfl) hP hD hS rfl hl.1 rfl (Nat.le_of_ble_eq_true rfl) ⟨hc1, hs1⟩ dL_law_2282 (fun H locs hP hD hS => ?_)
      refine lv_istore (lv' := [(6, .int 1), (5, .int (nI (4 * q))), (4, .ref a.oD), (3, .ref a.oA), (2, .ref a.am), (1, .ref a.aX), (0, .ref b)]) hx hb dL_law_2285 hl (by decide) rfl (fun ls hl => ?_)
      refine lv_aload_n hx hb dL_law_2287 rfl (lv_at hl 4 rfl) ?_
      refine lv_aload_n hx hb dL_law_2288 rfl (lv_at hl 6 rfl) ?_
      refine lv_iload hx hb dL_law_2289 (lv_at hl 1 rfl) ?_
      refine lv_iconst (v := 1) hx hb dL_law_2291 (by decide) ?_
      refine lv_iadd hx hb dL_law_2292 ?_
      refine m_sld (v := nI j) hx hb hC.hX hC.hbl hC.hbA hS (k := 4 * q + 1) (m_add rfl rfl) (by omega) hC.hL e1 dL_law_2293 ?_
      refine lw_m (s1 := S9) (t1 := s9) (Wn := (LCh cy a S9 S9)) hC (c_X8_eventLitres_no2 l G cy a.am a.aS a.aBf a.aAs a.aSv a.aPa a.aOu a.aTx a.aCo s9.ct s9.nb s9.LN ((s9.x0).1) s9.CM s9.hs s9.th (bI (s9.x0).2) s9.ep s9.fc s9.σ j hI.1.1 hj hl7) (cwV 1 hC.S9.2.2.2.2 gL_law_X8_eventLitres rfl rfl rfl (by decide +kernel) ⟨Nat.le_of_ble_eq_true rfl, Nat.le_of_ble_eq_true rfl⟩) [15, 16] rfl (by decide) (SameR.cons (SameR.cons SameR.nil)) (by subst eS; rfl) hP hD hS rfl hl.1 rfl (Nat.le_of_ble_eq_true rfl) ⟨hc1, hs1⟩ dL_law_2294 (fun H locs hP hD hS => ?_)
      refine lv_istore (lv' := [(7, .int 0), (6, .int 1), (5, .int (nI (4 * q))), (4, .ref a.oD), (3, .ref a.oA), (2, .ref a.am), (1, .ref a.aX), (0, .ref b)]) hx hb dL_law_2297 hl (by decide) rfl (fun ls hl => ?_)
      refine lv_aload_n hx hb dL_law_2299 rfl (lv_at hl 5 rfl) ?_
      refine lw_thrown (s1 := S9) (t1 := S9) (k := 1) hC hP (by subst eS; rfl) hl.1 (Nat.le_of_ble_eq_true rfl) ⟨hc1, hs1⟩ dL_law_2300 ?_
      refine lv_iload hx hb dL_law_2303 (lv_at hl 1 rfl) ?_
      refine lv_icmp_eq (tgt := 2310) hx hb dL_law_2305 (by decide) (fun c_2305 => ?_) (fun c_2305 => ?_)
      rotate_left
      · exact absurd c_2305 (by decide)
      refine lv_iload hx hb dL_law_2310 (lv_at hl 1 rfl) ?_
      refine lv_if_ne (tgt := 2327) hx hb dL_law_2312 (by decide) (fun c_2312 => ?_) (fun c_2312 => ?_)
      rotate_left
      · exact absurd c_2312 (by decide)
      refine lv_goto (tgt := 2890) hx hb dL_law_2327 (by decide) ?_
      exact kk S9 H locs ls (LI.of (LI.mono hI (by omega)) (by subst eS; rfl) (by subst eS; rfl) (by subst eS; rfl) (by subst eS; rfl) (by subst eS; rfl) (by subst eS; rfl) (by subst eS; rfl) (by subst eS; rfl) (by subst eS; rfl) (by subst eS; rfl) (by subst eS; rfl) (by subst eS; rfl) (by subst eS; rfl) (by subst eS; rfl) (by subst eS; rfl)) hP hD hS (lv_sub hl [2, 3, 4, 5, 6, 7] rfl)
    · have h8 : ¬ lE s9.σ j ≤ 0 := fun z => by rw [Int32.le_iff_toInt_le, Int32.toInt_zero] at z; omega
      have h9 : ¬ lE s9.σ j = -1 := fun z => h8 (by rw [z]; decide)
      obtain ⟨S9, eS⟩ : ∃ z : LwS, z = (LwS.mk s9.σ s9.υ s9.ς s9.hs s9.ep s9.fc s9.ml 0 s9.nx s9.ct s9.nb s9.n s9.LN s9.CM s9.ρ s9.x s9.x0 s9.f s9.gk s9.g1 s9.g2 s9.g3 s9.fb s9.fB s9.fA s9.fV s9.fP s9.fO s9.g (fun _ => (lE s9.σ j).toInt64) s9.fd) := ⟨_, rfl⟩
      refine lv_aload_n hx hb dL_law_2274 rfl (lv_at hl 4 rfl) ?_
      refine lv_aload_n hx hb dL_law_2275 rfl (lv_at hl 5 rfl) ?_
      refine lv_iload hx hb dL_law_2276 (lv_at hl 0 rfl) ?_
      refine lv_iconst (v := 1) hx hb dL_law_2278 (by decide) ?_
      refine lv_iadd hx hb dL_law_2279 ?_
      refine m_sld (v := nI j) hx hb hC.hX hC.hbl hC.hbA hS (k := 4 * q + 1) (m_add rfl rfl) (by omega) hC.hL e1 dL_law_2280 ?_
      refine lv_aload_n hx hb dL_law_2281 rfl (lv_at hl 2 rfl) ?_
      refine lw_w (mc := 0) (ms := 0) (Wc := (LCh cy a s9 s9)) (Wn := (LCh cy a S9 s9)) hC (w_eventLitres_ok l G cy kS vS a.aX a.na a.tr a.sn s9.hs a.hi a.sc s9.ep s9.fc a.ob s9.σ j a.oA s9.fo hI.1.1 hj h9) (vx_cwSW 3 hC.S9.2.2.2.2 gL_law_L_eventLitres rfl rfl rfl (by decide +kernel) ⟨Nat.le_of_ble_eq_true rfl, Nat.le_of_ble_eq_true rfl⟩) [0, 1, 24] rfl (by decide) (SameL.cons SameA.rf (SameL.cons SameA.rf (SameL.cons SameA.one SameL.nil))) (by subst eS; rfl) hP hD hS rfl hl.1 rfl (Nat.le_of_ble_eq_true rfl) ⟨hc0, hs0⟩ dL_law_2282 (fun H locs hP hD hS => ?_)
      refine lv_istore (lv' := [(6, .int 0), (5, .int (nI (4 * q))), (4, .ref a.oD), (3, .ref a.oA), (2, .ref a.am), (1, .ref a.aX), (0, .ref b)]) hx hb dL_law_2285 hl (by decide) rfl (fun ls hl => ?_)
      refine lv_aload_n hx hb dL_law_2287 rfl (lv_at hl 4 rfl) ?_
      refine lv_aload_n hx hb dL_law_2288 rfl (lv_at hl 6 rfl) ?_
      refine lv_iload hx hb dL_law_2289 (lv_at hl 1 rfl) ?_
      refine lv_iconst (v := 1) hx hb dL_law_2291 (by decide) ?_
      refine lv_iadd hx hb dL_law_2292 ?_
      refine m_sld (v := nI j) hx hb hC.hX hC.hbl hC.hbA hS (k := 4 * q + 1) (m_add rfl rfl) (by omega) hC.hL e1 dL_law_2293 ?_
      refine lw_m (s1 := S9) (t1 := s9) (Wn := (LCh cy a S9 S9)) hC (c_X8_eventLitres_ok l G cy a.am a.aS a.aBf a.aAs a.aSv a.aPa a.aOu a.aTx a.aCo s9.ct s9.nb s9.LN ((s9.x0).1) s9.CM s9.hs s9.th (bI (s9.x0).2) s9.ep s9.fc s9.σ j hI.1.1 hj h8) (cwV 1 hC.S9.2.2.2.2 gL_law_X8_eventLitres rfl rfl rfl (by decide +kernel) ⟨Nat.le_of_ble_eq_true rfl, Nat.le_of_ble_eq_true rfl⟩) [15, 16] rfl (by decide) (SameR.cons (SameR.cons SameR.nil)) (by subst eS; rfl) hP hD hS rfl hl.1 rfl (Nat.le_of_ble_eq_true rfl) ⟨hcn, hsn⟩ dL_law_2294 (fun H locs hP hD hS => ?_)
      refine lv_istore (lv' := [(7, .int (lE s9.σ j)), (6, .int 0), (5, .int (nI (4 * q))), (4, .ref a.oD), (3, .ref a.oA), (2, .ref a.am), (1, .ref a.aX), (0, .ref b)]) hx hb dL_law_2297 hl (by decide) rfl (fun ls hl => ?_)
      refine lv_aload_n hx hb dL_law_2299 rfl (lv_at hl 5 rfl) ?_
      refine lw_thrown (s1 := S9) (t1 := S9) (k := 0) hC hP (by subst eS; rfl) hl.1 (Nat.le_of_ble_eq_true rfl) ⟨hcn, hsn⟩ dL_law_2300 ?_
      refine lv_iload hx hb dL_law_2303 (lv_at hl 1 rfl) ?_
      refine lv_icmp_eq (tgt := 2310) hx hb dL_law_2305 (by decide) (fun c_2305 => ?_) (fun c_2305 => ?_)
      rotate_left
      · exact absurd c_2305 (by decide)
      refine lv_iload hx hb dL_law_2310 (lv_at hl 1 rfl) ?_
      refine lv_if_ne (tgt := 2327) hx hb dL_law_2312 (by decide) (fun c_2312 => ?_) (fun c_2312 => ?_)
      · exact absurd c_2312 (by decide)
      refine lv_aload_n hx hb dL_law_2315 rfl (lv_at hl 4 rfl) ?_
      refine lv_iconst (v := 0) hx hb dL_law_2316 (by decide) ?_
      refine lw_ldL (s1 := S9) (t1 := S9) (x := (lE s9.σ j).toInt64) hC hP (by subst eS; rfl) dL_law_2317 ?_
      refine lv_iload hx hb dL_law_2318 (lv_at hl 0 rfl) ?_
      refine lv_i2l hx hb dL_law_2320 rfl ?_
      refine m_lcmp0 hx hb rfl dL_law_2321 ?_
      refine lv_if_eq (tgt := 2327) hx hb dL_law_2322 (by decide) (fun c_2322 => ?_) (fun c_2322 => ?_)
      rotate_left
      · exact absurd c_2322 (by decide)
      refine lv_goto (tgt := 2890) hx hb dL_law_2327 (by decide) ?_
      refine W.widen (k := cells + 1) (n := slots + 6) (by omega) (by omega) ?_
      exact kk S9 H locs ls (LI.of (LI.mono hI (by omega)) (by subst eS; rfl) (by subst eS; rfl) (by subst eS; rfl) (by subst eS; rfl) (by subst eS; rfl) (by subst eS; rfl) (by subst eS; rfl) (by subst eS; rfl) (by subst eS; rfl) (by subst eS; rfl) (by subst eS; rfl) (by subst eS; rfl) (by subst eS; rfl) (by subst eS; rfl) (by subst eS; rfl)) hP hD hS (lv_sub hl [2, 3, 4, 5, 6, 7] rfl)
  · obtain ⟨S9, eS⟩ : ∃ z : LwS, z = (LwS.mk s9.σ s9.υ s9.ς s9.hs s9.ep s9.fc s9.ml 1 s9.nx s9.ct s9.nb s9.n s9.LN s9.CM s9.ρ s9.x s9.x0 s9.f s9.gk s9.g1 s9.g2 s9.g3 s9.fb s9.fB s9.fA s9.fV s9.fP s9.fO s9.g s9.fo s9.fd) := ⟨_, rfl⟩
    refine lv_aload_n hx hb dL_law_2274 rfl (lv_at hl 4 rfl) ?_
    refine lv_aload_n hx hb dL_law_2275 rfl (lv_at hl 5 rfl) ?_
    refine lv_iload hx hb dL_law_2276 (lv_at hl 0 rfl) ?_
    refine lv_iconst (v := 1) hx hb dL_law_2278 (by decide) ?_
    refine lv_iadd hx hb dL_law_2279 ?_
    refine m_sld (v := xs (4 * q + 1)) hx hb hC.hX hC.hbl hC.hbA hS (k := 4 * q + 1) (m_add rfl rfl) (by omega) hC.hL rfl dL_law_2280 ?_
    refine lv_aload_n hx hb dL_law_2281 rfl (lv_at hl 2 rfl) ?_
    refine lw_w (mc := 1) (ms := 6) (Wc := (LCh cy a s9 s9)) (Wn := (LCh cy a S9 s9)) hC (w_eventLitres_t l G cy kS vS a.aX a.na a.tr a.sn s9.hs a.hi a.sc s9.ep s9.fc a.ob s9.σ (xs (4 * q + 1)) a.oA s9.fo hC.hl9 hI.1.1 hF) (vx_cwSW 3 hC.S9.2.2.2.2 gL_law_L_eventLitres rfl rfl rfl (by decide +kernel) ⟨Nat.le_of_ble_eq_true rfl, Nat.le_of_ble_eq_true rfl⟩) [0, 1, 24] rfl (by decide) (SameL.cons SameA.rf (SameL.cons SameA.rf (SameL.cons SameA.rf SameL.nil))) (by subst eS; rfl) hP hD hS rfl hl.1 rfl (Nat.le_of_ble_eq_true rfl) ⟨hc1, hs1⟩ dL_law_2282 (fun H locs hP hD hS => ?_)
    refine lv_istore (lv' := [(6, .int 1), (5, .int (nI (4 * q))), (4, .ref a.oD), (3, .ref a.oA), (2, .ref a.am), (1, .ref a.aX), (0, .ref b)]) hx hb dL_law_2285 hl (by decide) rfl (fun ls hl => ?_)
    refine lv_aload_n hx hb dL_law_2287 rfl (lv_at hl 4 rfl) ?_
    refine lv_aload_n hx hb dL_law_2288 rfl (lv_at hl 6 rfl) ?_
    refine lv_iload hx hb dL_law_2289 (lv_at hl 1 rfl) ?_
    refine lv_iconst (v := 1) hx hb dL_law_2291 (by decide) ?_
    refine lv_iadd hx hb dL_law_2292 ?_
    refine m_sld (v := xs (4 * q + 1)) hx hb hC.hX hC.hbl hC.hbA hS (k := 4 * q + 1) (m_add rfl rfl) (by omega) hC.hL rfl dL_law_2293 ?_
    refine lw_m (s1 := S9) (t1 := s9) (Wn := (LCh cy a S9 S9)) hC (c_X8_eventLitres_no l G cy a.am a.aS a.aBf a.aAs a.aSv a.aPa a.aOu a.aTx a.aCo s9.ct s9.nb s9.LN ((s9.x0).1) s9.CM s9.hs s9.th (bI (s9.x0).2) s9.ep s9.fc s9.σ (xs (4 * q + 1)) hI.1.1 hF) (cwV 1 hC.S9.2.2.2.2 gL_law_X8_eventLitres rfl rfl rfl (by decide +kernel) ⟨Nat.le_of_ble_eq_true rfl, Nat.le_of_ble_eq_true rfl⟩) [15, 16] rfl (by decide) (SameR.cons (SameR.cons SameR.nil)) (by subst eS; rfl) hP hD hS rfl hl.1 rfl (Nat.le_of_ble_eq_true rfl) ⟨hc1, hs1⟩ dL_law_2294 (fun H locs hP hD hS => ?_)
    refine lv_istore (lv' := [(7, .int 0), (6, .int 1), (5, .int (nI (4 * q))), (4, .ref a.oD), (3, .ref a.oA), (2, .ref a.am), (1, .ref a.aX), (0, .ref b)]) hx hb dL_law_2297 hl (by decide) rfl (fun ls hl => ?_)
    refine lv_aload_n hx hb dL_law_2299 rfl (lv_at hl 5 rfl) ?_
    refine lw_thrown (s1 := S9) (t1 := S9) (k := 1) hC hP (by subst eS; rfl) hl.1 (Nat.le_of_ble_eq_true rfl) ⟨hc1, hs1⟩ dL_law_2300 ?_
    refine lv_iload hx hb dL_law_2303 (lv_at hl 1 rfl) ?_
    refine lv_icmp_eq (tgt := 2310) hx hb dL_law_2305 (by decide) (fun c_2305 => ?_) (fun c_2305 => ?_)
    rotate_left
    · exact absurd c_2305 (by decide)
    refine lv_iload hx hb dL_law_2310 (lv_at hl 1 rfl) ?_
    refine lv_if_ne (tgt := 2327) hx hb dL_law_2312 (by decide) (fun c_2312 => ?_) (fun c_2312 => ?_)
    rotate_left
    · exact absurd c_2312 (by decide)
    refine lv_goto (tgt := 2890) hx hb dL_law_2327 (by decide) ?_
    exact kk S9 H locs ls (LI.of (LI.mono hI (by omega)) (by subst eS; rfl) (by subst eS; rfl) (by subst eS; rfl) (by subst eS; rfl) (by subst eS; rfl) (by subst eS; rfl) (by subst eS; rfl) (by subst eS; rfl) (by subst eS; rfl) (by subst eS; rfl) (by subst eS; rfl) (by subst eS; rfl) (by subst eS; rfl) (by subst eS; rfl) (by subst eS; rfl)) hP hD hS (lv_sub hl [2, 3, 4, 5, 6, 7] rfl)

set_option maxRecDepth 100000 in
set_option maxHeartbeats 4000000 in
theorem case_38 {p : Program} {l : Launch} {e : Env} {s : State} {m : MethodId} {below : List Frame} {meth : Method} {cq : Code} {G : va_G} {cy : Nat → ClassId} {kS vS : Nat → Nat} {A : Nat → Prop} {a : LA} {b L q : Nat} {xs : Nat → Int32} {Q : State → Prop} {n0 cells slots : Nat} (hC : LC l p s m meth cq G cy kS vS A b L xs) (hq : 4 * q + 4 ≤ L) (hn0 : n0 < 1000000) (hc1 : cells + 1 ≤ room_1.cells) (hs1 : slots + 6 ≤ room_1.slots) (kk : LGo p l e s m below meth cq G cy A a b q Q (n0 + 300) (cells + 1) (slots + 6) 2890) : LGo p l e s m below meth cq G cy A a b q Q n0 cells slots 2330 := by
  intro s9 H locs ls hI hP hD hS hl
  obtain ⟨hx, hb, hml, hown, hts⟩ := id hC.S9
  have hL9 := hC.hL
  have hc0 : cells + 0 ≤ room_1.cells := Nat.le_of_succ_le hc1
  have hcn : cells ≤ room_1.cells := Nat.le_of_succ_le hc1
  have hs0 : slots + 0 ≤ room_1.slots := Nat.le_trans (Nat.le_add_right slots 6) hs1
  have hsn : slots ≤ room_1.slots := Nat.le_trans (Nat.le_add_right slots 6) hs1
  have ho := hI.1.1
  have hN0 := ho.1
  have hM0 := ho.2.1
  have hE0 := ho.2.2.1
  have hnx := hI.2.2.2.2.1
  have hct := hI.2.2.2.2.2.1
  obtain ⟨S9, eS⟩ : ∃ z : LwS, z = (LwS.mk s9.σ s9.υ s9.ς s9.hs s9.ep s9.fc s9.ml 0 s9.nx s9.ct s9.nb s9.n s9.LN s9.CM s9.ρ s9.x s9.x0 s9.f s9.gk s9.g1 s9.g2 s9.g3 s9.fb s9.fB s9.fA s9.fV s9.fP s9.fO s9.g s9.fo s9.fd) := ⟨_, rfl⟩
  refine lv_aload_n hx hb dL_law_2330 rfl (lv_at hl 4 rfl) ?_
  refine c_roVi hC.S9 (c_X7_time l G cy a.aX a.na a.tr a.sn s9.hs a.hi a.sc s9.ep s9.fc a.ob s9.σ hI.1.1) (cwV 0 hC.S9.2.2.2.2 gL_law_X7_time rfl rfl rfl (by decide +kernel) ⟨Nat.le_of_ble_eq_true rfl, Nat.le_of_ble_eq_true rfl⟩) PB.blind (va_recv hC.hK.1 hP (ci := 11) (q0 := offs (LCh cy a s9 s9) 0 + 0) rfl ((fl_at (Wc := (LCh cy a s9 s9)) (j := 0) (i := 0) (c := [(a.aX, .inr (11, [.ref (a.na 0), .ref (a.tr 0), .ref (a.sn 0), .int s9.hs, .ref a.hi, .ref a.sc, .int s9.ep, .int s9.fc, .ref a.ob]))]) rfl (Nat.le_of_ble_eq_true rfl)).trans rfl)) (PB.at hC.hK (PpartC (Wc := (LCh cy a s9 s9)) (cs := [[(a.aX, .inr (11, [.ref (a.na 0), .ref (a.tr 0), .ref (a.sn 0), .int s9.hs, .ref a.hi, .ref a.sc, .int s9.ep, .int s9.fc, .ref a.ob]))], sWd cy a.na s9.σ]) hP [0, 1] rfl)) rfl hl.1 rfl (Nat.le_of_ble_eq_true rfl) ⟨hcn, hsn⟩ dL_law_2331 ?_
  refine lv_aload_n hx hb dL_law_2334 rfl (lv_at hl 3 rfl) ?_
  refine lw_m (s1 := s9) (t1 := s9) (Wn := (LCh cy a s9 S9)) hC (c_X8_time l G cy a.am a.aS a.aBf a.aAs a.aSv a.aPa a.aOu a.aTx a.aCo s9.ct s9.nb s9.LN ((s9.x0).1) s9.CM s9.hs s9.th (bI (s9.x0).2) s9.ep s9.fc s9.σ hI.1.1) (cwV 0 hC.S9.2.2.2.2 gL_law_X8_time rfl rfl rfl (by decide +kernel) ⟨Nat.le_of_ble_eq_true rfl, Nat.le_of_ble_eq_true rfl⟩) [15, 16] rfl (by decide) (SameR.cons (SameR.cons SameR.nil)) (by subst eS; rfl) hP hD hS rfl hl.1 rfl (Nat.le_of_ble_eq_true rfl) ⟨hcn, hsn⟩ dL_law_2335 (fun H locs hP hD hS => ?_)
  refine lv_icmp_eq (tgt := 2890) hx hb dL_law_2338 (by decide) (fun c_2338 => ?_) (fun c_2338 => ?_)
  rotate_left
  · exact absurd rfl c_2338
  have hP : va_P G vwCl (fl (LCh cy a S9 S9)) H := by rw [LCh.left (s := s9) (by subst eS; rfl) (by subst eS; rfl) (by subst eS; rfl) (by subst eS; rfl) (by subst eS; rfl) (by subst eS; rfl) (by subst eS; rfl) (by subst eS; rfl) (by subst eS; rfl) (by subst eS; rfl) (by subst eS; rfl) (by subst eS; rfl) (by subst eS; rfl) (by subst eS; rfl) (by subst eS; rfl) (by subst eS; rfl) (by subst eS; rfl) (by subst eS; rfl) (by subst eS; rfl) (by subst eS; rfl) (by subst eS; rfl) (by subst eS; rfl)]; exact hP
  have hD : va_D A (fl (LCh cy a S9 S9)) := by rw [LCh.left (s := s9) (by subst eS; rfl) (by subst eS; rfl) (by subst eS; rfl) (by subst eS; rfl) (by subst eS; rfl) (by subst eS; rfl) (by subst eS; rfl) (by subst eS; rfl) (by subst eS; rfl) (by subst eS; rfl) (by subst eS; rfl) (by subst eS; rfl) (by subst eS; rfl) (by subst eS; rfl) (by subst eS; rfl) (by subst eS; rfl) (by subst eS; rfl) (by subst eS; rfl) (by subst eS; rfl) (by subst eS; rfl) (by subst eS; rfl) (by subst eS; rfl)]; exact hD
  refine W.widen (k := cells + 1) (n := slots + 6) (by omega) (by omega) ?_
  exact kk S9 H locs ls (LI.of (LI.mono hI (by omega)) (by subst eS; rfl) (by subst eS; rfl) (by subst eS; rfl) (by subst eS; rfl) (by subst eS; rfl) (by subst eS; rfl) (by subst eS; rfl) (by subst eS; rfl) (by subst eS; rfl) (by subst eS; rfl) (by subst eS; rfl) (by subst eS; rfl) (by subst eS; rfl) (by subst eS; rfl) (by subst eS; rfl)) hP hD hS (lv_sub hl [0, 1, 2, 3, 4, 5] rfl)

set_option maxRecDepth 100000 in
set_option maxHeartbeats 4000000 in
theorem case_39 {p : Program} {l : Launch} {e : Env} {s : State} {m : MethodId} {below : List Frame} {meth : Method} {cq : Code} {G : va_G} {cy : Nat → ClassId} {kS vS : Nat → Nat} {A : Nat → Prop} {a : LA} {b L q : Nat} {xs : Nat → Int32} {Q : State → Prop} {n0 cells slots : Nat} (hC : LC l p s m meth cq G cy kS vS A b L xs) (hq : 4 * q + 4 ≤ L) (hn0 : n0 < 1000000) (hc1 : cells + 1 ≤ room_1.cells) (hs1 : slots + 6 ≤ room_1.slots) (kk : LGo p l e s m below meth cq G cy A a b q Q (n0 + 300) (cells + 1) (slots + 6) 2890) : LGo p l e s m below meth cq G cy A a b q Q n0 cells slots 2343 := by
  intro s9 H locs ls hI hP hD hS hl
  obtain ⟨hx, hb, hml, hown, hts⟩ := id hC.S9
  have hL9 := hC.hL
  have hc0 : cells + 0 ≤ room_1.cells := Nat.le_of_succ_le hc1
  have hcn : cells ≤ room_1.cells := Nat.le_of_succ_le hc1
  have hs0 : slots + 0 ≤ room_1.slots := Nat.le_trans (Nat.le_add_right slots 6) hs1
  have hsn : slots ≤ room_1.slots := Nat.le_trans (Nat.le_add_right slots 6) hs1
  have ho := hI.1.1
  have hN0 := ho.1
  have hM0 := ho.2.1
  have hE0 := ho.2.2.1
  have hnx := hI.2.2.2.2.1
  have hct := hI.2.2.2.2.2.1
  obtain ⟨S9, eS⟩ : ∃ z : LwS, z = (LwS.mk s9.σ s9.υ s9.ς s9.hs s9.ep s9.fc s9.ml 0 s9.nx s9.ct s9.nb s9.n s9.LN s9.CM s9.ρ s9.x s9.x0 s9.f s9.gk s9.g1 s9.g2 s9.g3 s9.fb s9.fB s9.fA s9.fV s9.fP s9.fO s9.g s9.fo s9.fd) := ⟨_, rfl⟩
  refine lv_aload_n hx hb dL_law_2343 rfl (lv_at hl 4 rfl) ?_
  refine c_roVi hC.S9 (c_X7_defectionTotal l G cy a.aX a.na a.tr a.sn s9.hs a.hi a.sc s9.ep s9.fc a.ob s9.σ hI.1.1) (cwV 0 hC.S9.2.2.2.2 gL_law_X7_defectionTotal rfl rfl rfl (by decide +kernel) ⟨Nat.le_of_ble_eq_true rfl, Nat.le_of_ble_eq_true rfl⟩) PB.blind (va_recv hC.hK.1 hP (ci := 11) (q0 := offs (LCh cy a s9 s9) 0 + 0) rfl ((fl_at (Wc := (LCh cy a s9 s9)) (j := 0) (i := 0) (c := [(a.aX, .inr (11, [.ref (a.na 0), .ref (a.tr 0), .ref (a.sn 0), .int s9.hs, .ref a.hi, .ref a.sc, .int s9.ep, .int s9.fc, .ref a.ob]))]) rfl (Nat.le_of_ble_eq_true rfl)).trans rfl)) (PB.at hC.hK (PpartC (Wc := (LCh cy a s9 s9)) (cs := [[(a.aX, .inr (11, [.ref (a.na 0), .ref (a.tr 0), .ref (a.sn 0), .int s9.hs, .ref a.hi, .ref a.sc, .int s9.ep, .int s9.fc, .ref a.ob]))], sWd cy a.na s9.σ]) hP [0, 1] rfl)) rfl hl.1 rfl (Nat.le_of_ble_eq_true rfl) ⟨hcn, hsn⟩ dL_law_2344 ?_
  refine lv_aload_n hx hb dL_law_2347 rfl (lv_at hl 3 rfl) ?_
  refine lw_m (s1 := s9) (t1 := s9) (Wn := (LCh cy a s9 S9)) hC (c_X8_defectionTotal l G cy a.am a.aS a.aBf a.aAs a.aSv a.aPa a.aOu a.aTx a.aCo s9.ct s9.nb s9.LN ((s9.x0).1) s9.CM s9.hs s9.th (bI (s9.x0).2) s9.ep s9.fc s9.σ hI.1.1) (cwV 0 hC.S9.2.2.2.2 gL_law_X8_defectionTotal rfl rfl rfl (by decide +kernel) ⟨Nat.le_of_ble_eq_true rfl, Nat.le_of_ble_eq_true rfl⟩) [15, 16] rfl (by decide) (SameR.cons (SameR.cons SameR.nil)) (by subst eS; rfl) hP hD hS rfl hl.1 rfl (Nat.le_of_ble_eq_true rfl) ⟨hcn, hsn⟩ dL_law_2348 (fun H locs hP hD hS => ?_)
  refine lv_icmp_eq (tgt := 2890) hx hb dL_law_2351 (by decide) (fun c_2351 => ?_) (fun c_2351 => ?_)
  rotate_left
  · exact absurd rfl c_2351
  have hP : va_P G vwCl (fl (LCh cy a S9 S9)) H := by rw [LCh.left (s := s9) (by subst eS; rfl) (by subst eS; rfl) (by subst eS; rfl) (by subst eS; rfl) (by subst eS; rfl) (by subst eS; rfl) (by subst eS; rfl) (by subst eS; rfl) (by subst eS; rfl) (by subst eS; rfl) (by subst eS; rfl) (by subst eS; rfl) (by subst eS; rfl) (by subst eS; rfl) (by subst eS; rfl) (by subst eS; rfl) (by subst eS; rfl) (by subst eS; rfl) (by subst eS; rfl) (by subst eS; rfl) (by subst eS; rfl) (by subst eS; rfl)]; exact hP
  have hD : va_D A (fl (LCh cy a S9 S9)) := by rw [LCh.left (s := s9) (by subst eS; rfl) (by subst eS; rfl) (by subst eS; rfl) (by subst eS; rfl) (by subst eS; rfl) (by subst eS; rfl) (by subst eS; rfl) (by subst eS; rfl) (by subst eS; rfl) (by subst eS; rfl) (by subst eS; rfl) (by subst eS; rfl) (by subst eS; rfl) (by subst eS; rfl) (by subst eS; rfl) (by subst eS; rfl) (by subst eS; rfl) (by subst eS; rfl) (by subst eS; rfl) (by subst eS; rfl) (by subst eS; rfl) (by subst eS; rfl)]; exact hD
  refine W.widen (k := cells + 1) (n := slots + 6) (by omega) (by omega) ?_
  exact kk S9 H locs ls (LI.of (LI.mono hI (by omega)) (by subst eS; rfl) (by subst eS; rfl) (by subst eS; rfl) (by subst eS; rfl) (by subst eS; rfl) (by subst eS; rfl) (by subst eS; rfl) (by subst eS; rfl) (by subst eS; rfl) (by subst eS; rfl) (by subst eS; rfl) (by subst eS; rfl) (by subst eS; rfl) (by subst eS; rfl) (by subst eS; rfl)) hP hD hS (lv_sub hl [0, 1, 2, 3, 4, 5] rfl)

set_option maxRecDepth 100000 in
set_option maxHeartbeats 4000000 in
theorem case_40 {p : Program} {l : Launch} {e : Env} {s : State} {m : MethodId} {below : List Frame} {meth : Method} {cq : Code} {G : va_G} {cy : Nat → ClassId} {kS vS : Nat → Nat} {A : Nat → Prop} {a : LA} {b L q : Nat} {xs : Nat → Int32} {Q : State → Prop} {n0 cells slots : Nat} (hC : LC l p s m meth cq G cy kS vS A b L xs) (hq : 4 * q + 4 ≤ L) (hn0 : n0 < 1000000) (hc1 : cells + 1 ≤ room_1.cells) (hs1 : slots + 6 ≤ room_1.slots) (kk : LGo p l e s m below meth cq G cy A a b q Q (n0 + 300) (cells + 1) (slots + 6) 2890) : LGo p l e s m below meth cq G cy A a b q Q n0 cells slots 2356 := by
  intro s9 H locs ls hI hP hD hS hl
  obtain ⟨hx, hb, hml, hown, hts⟩ := id hC.S9
  have hL9 := hC.hL
  have hc0 : cells + 0 ≤ room_1.cells := Nat.le_of_succ_le hc1
  have hcn : cells ≤ room_1.cells := Nat.le_of_succ_le hc1
  have hs0 : slots + 0 ≤ room_1.slots := Nat.le_trans (Nat.le_add_right slots 6) hs1
  have hsn : slots ≤ room_1.slots := Nat.le_trans (Nat.le_add_right slots 6) hs1
  have ho := hI.1.1
  have hN0 := ho.1
  have hM0 := ho.2.1
  have hE0 := ho.2.2.1
  have hnx := hI.2.2.2.2.1
  have hct := hI.2.2.2.2.2.1
  obtain ⟨S9, eS⟩ : ∃ z : LwS, z = (LwS.mk s9.σ s9.υ s9.ς s9.hs s9.ep s9.fc s9.ml 0 s9.nx s9.ct s9.nb s9.n s9.LN s9.CM s9.ρ s9.x s9.x0 s9.f s9.gk s9.g1 s9.g2 s9.g3 s9.fb s9.fB s9.fA s9.fV s9.fP s9.fO s9.g s9.fo s9.fd) := ⟨_, rfl⟩
  refine lv_aload_n hx hb dL_law_2356 rfl (lv_at hl 4 rfl) ?_
  refine c_roVi hC.S9 (c_X7_tappedLitres l G cy a.aX a.na a.tr a.sn s9.hs a.hi a.sc s9.ep s9.fc a.ob s9.σ hI.1.1) (cwV 0 hC.S9.2.2.2.2 gL_law_X7_tappedLitres rfl rfl rfl (by decide +kernel) ⟨Nat.le_of_ble_eq_true rfl, Nat.le_of_ble_eq_true rfl⟩) PB.blind (va_recv hC.hK.1 hP (ci := 11) (q0 := offs (LCh cy a s9 s9) 0 + 0) rfl ((fl_at (Wc := (LCh cy a s9 s9)) (j := 0) (i := 0) (c := [(a.aX, .inr (11, [.ref (a.na 0), .ref (a.tr 0), .ref (a.sn 0), .int s9.hs, .ref a.hi, .ref a.sc, .int s9.ep, .int s9.fc, .ref a.ob]))]) rfl (Nat.le_of_ble_eq_true rfl)).trans rfl)) (PB.at hC.hK (PpartC (Wc := (LCh cy a s9 s9)) (cs := [[(a.aX, .inr (11, [.ref (a.na 0), .ref (a.tr 0), .ref (a.sn 0), .int s9.hs, .ref a.hi, .ref a.sc, .int s9.ep, .int s9.fc, .ref a.ob]))], sWd cy a.na s9.σ]) hP [0, 1] rfl)) rfl hl.1 rfl (Nat.le_of_ble_eq_true rfl) ⟨hcn, hsn⟩ dL_law_2357 ?_
  refine lv_aload_n hx hb dL_law_2360 rfl (lv_at hl 3 rfl) ?_
  refine lw_m (s1 := s9) (t1 := s9) (Wn := (LCh cy a s9 S9)) hC (c_X8_tappedLitres l G cy a.am a.aS a.aBf a.aAs a.aSv a.aPa a.aOu a.aTx a.aCo s9.ct s9.nb s9.LN ((s9.x0).1) s9.CM s9.hs s9.th (bI (s9.x0).2) s9.ep s9.fc s9.σ hI.1.1) (cwV 0 hC.S9.2.2.2.2 gL_law_X8_tappedLitres rfl rfl rfl (by decide +kernel) ⟨Nat.le_of_ble_eq_true rfl, Nat.le_of_ble_eq_true rfl⟩) [15, 16] rfl (by decide) (SameR.cons (SameR.cons SameR.nil)) (by subst eS; rfl) hP hD hS rfl hl.1 rfl (Nat.le_of_ble_eq_true rfl) ⟨hcn, hsn⟩ dL_law_2361 (fun H locs hP hD hS => ?_)
  refine lv_icmp_eq (tgt := 2890) hx hb dL_law_2364 (by decide) (fun c_2364 => ?_) (fun c_2364 => ?_)
  rotate_left
  · exact absurd rfl c_2364
  have hP : va_P G vwCl (fl (LCh cy a S9 S9)) H := by rw [LCh.left (s := s9) (by subst eS; rfl) (by subst eS; rfl) (by subst eS; rfl) (by subst eS; rfl) (by subst eS; rfl) (by subst eS; rfl) (by subst eS; rfl) (by subst eS; rfl) (by subst eS; rfl) (by subst eS; rfl) (by subst eS; rfl) (by subst eS; rfl) (by subst eS; rfl) (by subst eS; rfl) (by subst eS; rfl) (by subst eS; rfl) (by subst eS; rfl) (by subst eS; rfl) (by subst eS; rfl) (by subst eS; rfl) (by subst eS; rfl) (by subst eS; rfl)]; exact hP
  have hD : va_D A (fl (LCh cy a S9 S9)) := by rw [LCh.left (s := s9) (by subst eS; rfl) (by subst eS; rfl) (by subst eS; rfl) (by subst eS; rfl) (by subst eS; rfl) (by subst eS; rfl) (by subst eS; rfl) (by subst eS; rfl) (by subst eS; rfl) (by subst eS; rfl) (by subst eS; rfl) (by subst eS; rfl) (by subst eS; rfl) (by subst eS; rfl) (by subst eS; rfl) (by subst eS; rfl) (by subst eS; rfl) (by subst eS; rfl) (by subst eS; rfl) (by subst eS; rfl) (by subst eS; rfl) (by subst eS; rfl)]; exact hD
  refine W.widen (k := cells + 1) (n := slots + 6) (by omega) (by omega) ?_
  exact kk S9 H locs ls (LI.of (LI.mono hI (by omega)) (by subst eS; rfl) (by subst eS; rfl) (by subst eS; rfl) (by subst eS; rfl) (by subst eS; rfl) (by subst eS; rfl) (by subst eS; rfl) (by subst eS; rfl) (by subst eS; rfl) (by subst eS; rfl) (by subst eS; rfl) (by subst eS; rfl) (by subst eS; rfl) (by subst eS; rfl) (by subst eS; rfl)) hP hD hS (lv_sub hl [0, 1, 2, 3, 4, 5] rfl)

set_option maxRecDepth 100000 in
set_option maxHeartbeats 4000000 in
theorem case_41 {p : Program} {l : Launch} {e : Env} {s : State} {m : MethodId} {below : List Frame} {meth : Method} {cq : Code} {G : va_G} {cy : Nat → ClassId} {kS vS : Nat → Nat} {A : Nat → Prop} {a : LA} {b L q : Nat} {xs : Nat → Int32} {Q : State → Prop} {n0 cells slots : Nat} (hC : LC l p s m meth cq G cy kS vS A b L xs) (hq : 4 * q + 4 ≤ L) (hn0 : n0 < 1000000) (hc1 : cells + 1 ≤ room_1.cells) (hs1 : slots + 6 ≤ room_1.slots) (kk : LGo p l e s m below meth cq G cy A a b q Q (n0 + 300) (cells + 1) (slots + 6) 2890) : LGo p l e s m below meth cq G cy A a b q Q n0 cells slots 2369 := by
  intro s9 H locs ls hI hP hD hS hl
  obtain ⟨hx, hb, hml, hown, hts⟩ := id hC.S9
  have hL9 := hC.hL
  have hc0 : cells + 0 ≤ room_1.cells := Nat.le_of_succ_le hc1
  have hcn : cells ≤ room_1.cells := Nat.le_of_succ_le hc1
  have hs0 : slots + 0 ≤ room_1.slots := Nat.le_trans (Nat.le_add_right slots 6) hs1
  have hsn : slots ≤ room_1.slots := Nat.le_trans (Nat.le_add_right slots 6) hs1
  have ho := hI.1.1
  have hN0 := ho.1
  have hM0 := ho.2.1
  have hE0 := ho.2.2.1
  have hnx := hI.2.2.2.2.1
  have hct := hI.2.2.2.2.2.1
  obtain ⟨S9, eS⟩ : ∃ z : LwS, z = (LwS.mk s9.σ s9.υ s9.ς s9.hs s9.ep s9.fc s9.ml 0 s9.nx s9.ct s9.nb s9.n s9.LN s9.CM s9.ρ s9.x s9.x0 s9.f s9.gk s9.g1 s9.g2 s9.g3 s9.fb s9.fB s9.fA s9.fV s9.fP s9.fO s9.g s9.fo s9.fd) := ⟨_, rfl⟩
  refine lv_aload_n hx hb dL_law_2369 rfl (lv_at hl 4 rfl) ?_
  refine c_roVi hC.S9 (c_X7_drainedLitres l G cy a.aX a.na a.tr a.sn s9.hs a.hi a.sc s9.ep s9.fc a.ob s9.σ hI.1.1) (cwV 0 hC.S9.2.2.2.2 gL_law_X7_drainedLitres rfl rfl rfl (by decide +kernel) ⟨Nat.le_of_ble_eq_true rfl, Nat.le_of_ble_eq_true rfl⟩) PB.blind (va_recv hC.hK.1 hP (ci := 11) (q0 := offs (LCh cy a s9 s9) 0 + 0) rfl ((fl_at (Wc := (LCh cy a s9 s9)) (j := 0) (i := 0) (c := [(a.aX, .inr (11, [.ref (a.na 0), .ref (a.tr 0), .ref (a.sn 0), .int s9.hs, .ref a.hi, .ref a.sc, .int s9.ep, .int s9.fc, .ref a.ob]))]) rfl (Nat.le_of_ble_eq_true rfl)).trans rfl)) (PB.at hC.hK (PpartC (Wc := (LCh cy a s9 s9)) (cs := [[(a.aX, .inr (11, [.ref (a.na 0), .ref (a.tr 0), .ref (a.sn 0), .int s9.hs, .ref a.hi, .ref a.sc, .int s9.ep, .int s9.fc, .ref a.ob]))], sWd cy a.na s9.σ]) hP [0, 1] rfl)) rfl hl.1 rfl (Nat.le_of_ble_eq_true rfl) ⟨hcn, hsn⟩ dL_law_2370 ?_
  refine lv_aload_n hx hb dL_law_2373 rfl (lv_at hl 3 rfl) ?_
  refine lw_m (s1 := s9) (t1 := s9) (Wn := (LCh cy a s9 S9)) hC (c_X8_drainedLitres l G cy a.am a.aS a.aBf a.aAs a.aSv a.aPa a.aOu a.aTx a.aCo s9.ct s9.nb s9.LN ((s9.x0).1) s9.CM s9.hs s9.th (bI (s9.x0).2) s9.ep s9.fc s9.σ hI.1.1) (cwV 0 hC.S9.2.2.2.2 gL_law_X8_drainedLitres rfl rfl rfl (by decide +kernel) ⟨Nat.le_of_ble_eq_true rfl, Nat.le_of_ble_eq_true rfl⟩) [15, 16] rfl (by decide) (SameR.cons (SameR.cons SameR.nil)) (by subst eS; rfl) hP hD hS rfl hl.1 rfl (Nat.le_of_ble_eq_true rfl) ⟨hcn, hsn⟩ dL_law_2374 (fun H locs hP hD hS => ?_)
  refine lv_icmp_eq (tgt := 2890) hx hb dL_law_2377 (by decide) (fun c_2377 => ?_) (fun c_2377 => ?_)
  rotate_left
  · exact absurd rfl c_2377
  have hP : va_P G vwCl (fl (LCh cy a S9 S9)) H := by rw [LCh.left (s := s9) (by subst eS; rfl) (by subst eS; rfl) (by subst eS; rfl) (by subst eS; rfl) (by subst eS; rfl) (by subst eS; rfl) (by subst eS; rfl) (by subst eS; rfl) (by subst eS; rfl) (by subst eS; rfl) (by subst eS; rfl) (by subst eS; rfl) (by subst eS; rfl) (by subst eS; rfl) (by subst eS; rfl) (by subst eS; rfl) (by subst eS; rfl) (by subst eS; rfl) (by subst eS; rfl) (by subst eS; rfl) (by subst eS; rfl) (by subst eS; rfl)]; exact hP
  have hD : va_D A (fl (LCh cy a S9 S9)) := by rw [LCh.left (s := s9) (by subst eS; rfl) (by subst eS; rfl) (by subst eS; rfl) (by subst eS; rfl) (by subst eS; rfl) (by subst eS; rfl) (by subst eS; rfl) (by subst eS; rfl) (by subst eS; rfl) (by subst eS; rfl) (by subst eS; rfl) (by subst eS; rfl) (by subst eS; rfl) (by subst eS; rfl) (by subst eS; rfl) (by subst eS; rfl) (by subst eS; rfl) (by subst eS; rfl) (by subst eS; rfl) (by subst eS; rfl) (by subst eS; rfl) (by subst eS; rfl)]; exact hD
  refine W.widen (k := cells + 1) (n := slots + 6) (by omega) (by omega) ?_
  exact kk S9 H locs ls (LI.of (LI.mono hI (by omega)) (by subst eS; rfl) (by subst eS; rfl) (by subst eS; rfl) (by subst eS; rfl) (by subst eS; rfl) (by subst eS; rfl) (by subst eS; rfl) (by subst eS; rfl) (by subst eS; rfl) (by subst eS; rfl) (by subst eS; rfl) (by subst eS; rfl) (by subst eS; rfl) (by subst eS; rfl) (by subst eS; rfl)) hP hD hS (lv_sub hl [0, 1, 2, 3, 4, 5] rfl)
