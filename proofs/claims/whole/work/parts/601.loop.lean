/-! the law, call by call -/
theorem and63 (y : Int32) : ∃ k : Nat, k < 64 ∧ y &&& 63 = nI k := by
  have h1 : (y &&& 63).toBitVec = y.toBitVec &&& 63#32 := rfl
  have h2 : (y &&& 63).toBitVec.toNat ≤ 63 := by
    rw [h1, BitVec.toNat_and]
    exact Nat.and_le_right
  have h3 : (y &&& 63).toInt = ((y &&& 63).toBitVec.toNat : Int) := BitVec.toInt_eq_toNat_of_lt (by omega)
  exact ⟨(y &&& 63).toBitVec.toNat, by omega, Int32.toInt_inj.mp (by rw [h3, nI_toInt (by omega)])⟩
set_option maxRecDepth 100000 in
set_option maxHeartbeats 4000000 in
theorem law_sw {p : Program} {l : Launch} {e : Env} {s : State} {m : MethodId} {below : List Frame} {meth : Method} {cq : Code} {G : va_G} {cy : Nat → ClassId} {kS vS : Nat → Nat} {A : Nat → Prop} {a : LA} {b L : Nat} {xs : Nat → Int32} {q : Nat} {Q : State → Prop} {n0 cells slots : Nat} (hC : LC l p s m meth cq G cy kS vS A b L xs) (hq : 4 * q + 4 ≤ L) (hn0 : n0 < 1000000) (hc1 : cells + 1 ≤ room_1.cells) (hs1 : slots + 6 ≤ room_1.slots) (kk : LGo p l e s m below meth cq G cy A a b q Q (n0 + 300) (cells + 1) (slots + 6) 2890) {s9 : LwS} {H : Heap} {locs : List Loc} {ls : Array Slot} (hI : LI n0 s9) (hP : va_P G vwCl (fl (LCh cy a s9 s9)) H) (hD : va_D A (fl (LCh cy a s9 s9))) (hS : va_S A s.heap H locs) (hl : lv_has ls 9 [(5, .int (nI (4 * q))), (4, .ref a.oD), (3, .ref a.oA), (2, .ref a.am), (1, .ref a.aX), (0, .ref b)]) (k : Nat) (hk : k < 64) : W p l e room_1 s m #[Value.ref b] below meth cq H locs cells slots Q (F0 m 44 ls [.int (nI k)]) := by
  have hx := hC.S9.1
  have hb := hC.S9.2.1
  have g : 0 ≤ k := Nat.zero_le k
  rcases Nat.eq_or_lt_of_le g with e9 | g
  · subst e9
    exact lv_tableIn (off := 236) (tgt := 280) hx hb dL_law_44 (by decide +kernel) (by decide +kernel) (by decide +kernel) (by decide) (case_0 hC hq hn0 hc1 hs1 kk s9 H locs ls hI hP hD hS hl)
  have g : 1 ≤ k := g
  rcases Nat.eq_or_lt_of_le g with e9 | g
  · subst e9
    exact lv_tableIn (off := 280) (tgt := 324) hx hb dL_law_44 (by decide +kernel) (by decide +kernel) (by decide +kernel) (by decide) (case_1 hC hq hn0 hc1 hs1 kk s9 H locs ls hI hP hD hS hl)
  have g : 2 ≤ k := g
  rcases Nat.eq_or_lt_of_le g with e9 | g
  · subst e9
    exact lv_tableIn (off := 360) (tgt := 404) hx hb dL_law_44 (by decide +kernel) (by decide +kernel) (by decide +kernel) (by decide) (case_2 hC hq hn0 hc1 hs1 kk s9 H locs ls hI hP hD hS hl)
  have g : 3 ≤ k := g
  rcases Nat.eq_or_lt_of_le g with e9 | g
  · subst e9
    exact lv_tableIn (off := 451) (tgt := 495) hx hb dL_law_44 (by decide +kernel) (by decide +kernel) (by decide +kernel) (by decide) (case_3 hC hq hn0 hc1 hs1 kk s9 H locs ls hI hP hD hS hl)
  have g : 4 ≤ k := g
  rcases Nat.eq_or_lt_of_le g with e9 | g
  · subst e9
    exact lv_tableIn (off := 531) (tgt := 575) hx hb dL_law_44 (by decide +kernel) (by decide +kernel) (by decide +kernel) (by decide) (case_4 hC hq hn0 hc1 hs1 kk s9 H locs ls hI hP hD hS hl)
  have g : 5 ≤ k := g
  rcases Nat.eq_or_lt_of_le g with e9 | g
  · subst e9
    exact lv_tableIn (off := 611) (tgt := 655) hx hb dL_law_44 (by decide +kernel) (by decide +kernel) (by decide +kernel) (by decide) (case_5 hC hq hn0 hc1 hs1 kk s9 H locs ls hI hP hD hS hl)
  have g : 6 ≤ k := g
  rcases Nat.eq_or_lt_of_le g with e9 | g
  · subst e9
    exact lv_tableIn (off := 667) (tgt := 711) hx hb dL_law_44 (by decide +kernel) (by decide +kernel) (by decide +kernel) (by decide) (case_6 hC hq hn0 hc1 hs1 kk s9 H locs ls hI hP hD hS hl)
  have g : 7 ≤ k := g
  rcases Nat.eq_or_lt_of_le g with e9 | g
  · subst e9
    exact lv_tableIn (off := 723) (tgt := 767) hx hb dL_law_44 (by decide +kernel) (by decide +kernel) (by decide +kernel) (by decide) (case_7 hC hq hn0 hc1 hs1 kk s9 H locs ls hI hP hD hS hl)
  have g : 8 ≤ k := g
  rcases Nat.eq_or_lt_of_le g with e9 | g
  · subst e9
    exact lv_tableIn (off := 779) (tgt := 823) hx hb dL_law_44 (by decide +kernel) (by decide +kernel) (by decide +kernel) (by decide) (case_8 hC hq hn0 hc1 hs1 kk s9 H locs ls hI hP hD hS hl)
  have g : 9 ≤ k := g
  rcases Nat.eq_or_lt_of_le g with e9 | g
  · subst e9
    exact lv_tableIn (off := 792) (tgt := 836) hx hb dL_law_44 (by decide +kernel) (by decide +kernel) (by decide +kernel) (by decide) (case_9 hC hq hn0 hc1 hs1 kk s9 H locs ls hI hP hD hS hl)
  have g : 10 ≤ k := g
  rcases Nat.eq_or_lt_of_le g with e9 | g
  · subst e9
    exact lv_tableIn (off := 848) (tgt := 892) hx hb dL_law_44 (by decide +kernel) (by decide +kernel) (by decide +kernel) (by decide) (case_10 hC hq hn0 hc1 hs1 kk s9 H locs ls hI hP hD hS hl)
  have g : 11 ≤ k := g
  rcases Nat.eq_or_lt_of_le g with e9 | g
  · subst e9
    exact lv_tableIn (off := 904) (tgt := 948) hx hb dL_law_44 (by decide +kernel) (by decide +kernel) (by decide +kernel) (by decide) (case_11 hC hq hn0 hc1 hs1 kk s9 H locs ls hI hP hD hS hl)
  have g : 12 ≤ k := g
  rcases Nat.eq_or_lt_of_le g with e9 | g
  · subst e9
    exact lv_tableIn (off := 960) (tgt := 1004) hx hb dL_law_44 (by decide +kernel) (by decide +kernel) (by decide +kernel) (by decide) (case_12 hC hq hn0 hc1 hs1 kk s9 H locs ls hI hP hD hS hl)
  have g : 13 ≤ k := g
  rcases Nat.eq_or_lt_of_le g with e9 | g
  · subst e9
    exact lv_tableIn (off := 1037) (tgt := 1081) hx hb dL_law_44 (by decide +kernel) (by decide +kernel) (by decide +kernel) (by decide) (case_13 hC hq hn0 hc1 hs1 kk s9 H locs ls hI hP hD hS hl)
  have g : 14 ≤ k := g
  rcases Nat.eq_or_lt_of_le g with e9 | g
  · subst e9
    exact lv_tableIn (off := 1112) (tgt := 1156) hx hb dL_law_44 (by decide +kernel) (by decide +kernel) (by decide +kernel) (by decide) (case_14 hC hq hn0 hc1 hs1 kk s9 H locs ls hI hP hD hS hl)
  have g : 15 ≤ k := g
  rcases Nat.eq_or_lt_of_le g with e9 | g
  · subst e9
    exact lv_tableIn (off := 1175) (tgt := 1219) hx hb dL_law_44 (by decide +kernel) (by decide +kernel) (by decide +kernel) (by decide) (case_15 hC hq hn0 hc1 hs1 kk s9 H locs ls hI hP hD hS hl)
  have g : 16 ≤ k := g
  rcases Nat.eq_or_lt_of_le g with e9 | g
  · subst e9
    exact lv_tableIn (off := 1231) (tgt := 1275) hx hb dL_law_44 (by decide +kernel) (by decide +kernel) (by decide +kernel) (by decide) (case_16 hC hq hn0 hc1 hs1 kk s9 H locs ls hI hP hD hS hl)
  have g : 17 ≤ k := g
  rcases Nat.eq_or_lt_of_le g with e9 | g
  · subst e9
    exact lv_tableIn (off := 1311) (tgt := 1355) hx hb dL_law_44 (by decide +kernel) (by decide +kernel) (by decide +kernel) (by decide) (case_17 hC hq hn0 hc1 hs1 kk s9 H locs ls hI hP hD hS hl)
  have g : 18 ≤ k := g
  rcases Nat.eq_or_lt_of_le g with e9 | g
  · subst e9
    exact lv_tableIn (off := 1391) (tgt := 1435) hx hb dL_law_44 (by decide +kernel) (by decide +kernel) (by decide +kernel) (by decide) (case_18 hC hq hn0 hc1 hs1 kk s9 H locs ls hI hP hD hS hl)
  have g : 19 ≤ k := g
  rcases Nat.eq_or_lt_of_le g with e9 | g
  · subst e9
    exact lv_tableIn (off := 1454) (tgt := 1498) hx hb dL_law_44 (by decide +kernel) (by decide +kernel) (by decide +kernel) (by decide) (case_19 hC hq hn0 hc1 hs1 kk s9 H locs ls hI hP hD hS hl)
  have g : 20 ≤ k := g
  rcases Nat.eq_or_lt_of_le g with e9 | g
  · subst e9
    exact lv_tableIn (off := 1467) (tgt := 1511) hx hb dL_law_44 (by decide +kernel) (by decide +kernel) (by decide +kernel) (by decide) (case_20 hC hq hn0 hc1 hs1 kk s9 H locs ls hI hP hD hS hl)
  have g : 21 ≤ k := g
  rcases Nat.eq_or_lt_of_le g with e9 | g
  · subst e9
    exact lv_tableIn (off := 1480) (tgt := 1524) hx hb dL_law_44 (by decide +kernel) (by decide +kernel) (by decide +kernel) (by decide) (case_21 hC hq hn0 hc1 hs1 kk s9 H locs ls hI hP hD hS hl)
  have g : 22 ≤ k := g
  rcases Nat.eq_or_lt_of_le g with e9 | g
  · subst e9
    exact lv_tableIn (off := 1493) (tgt := 1537) hx hb dL_law_44 (by decide +kernel) (by decide +kernel) (by decide +kernel) (by decide) (case_22 hC hq hn0 hc1 hs1 kk s9 H locs ls hI hP hD hS hl)
  have g : 23 ≤ k := g
  rcases Nat.eq_or_lt_of_le g with e9 | g
  · subst e9
    exact lv_tableIn (off := 1537) (tgt := 1581) hx hb dL_law_44 (by decide +kernel) (by decide +kernel) (by decide +kernel) (by decide) (case_23 hC hq hn0 hc1 hs1 kk s9 H locs ls hI hP hD hS hl)
  have g : 24 ≤ k := g
  rcases Nat.eq_or_lt_of_le g with e9 | g
  · subst e9
    exact lv_tableIn (off := 1581) (tgt := 1625) hx hb dL_law_44 (by decide +kernel) (by decide +kernel) (by decide +kernel) (by decide) (case_24 hC hq hn0 hc1 hs1 kk s9 H locs ls hI hP hD hS hl)
  have g : 25 ≤ k := g
  rcases Nat.eq_or_lt_of_le g with e9 | g
  · subst e9
    exact lv_tableIn (off := 1625) (tgt := 1669) hx hb dL_law_44 (by decide +kernel) (by decide +kernel) (by decide +kernel) (by decide) (case_25 hC hq hn0 hc1 hs1 kk s9 H locs ls hI hP hD hS hl)
  have g : 26 ≤ k := g
  rcases Nat.eq_or_lt_of_le g with e9 | g
  · subst e9
    exact lv_tableIn (off := 1681) (tgt := 1725) hx hb dL_law_44 (by decide +kernel) (by decide +kernel) (by decide +kernel) (by decide) (case_26 hC hq hn0 hc1 hs1 kk s9 H locs ls hI hP hD hS hl)
  have g : 27 ≤ k := g
  rcases Nat.eq_or_lt_of_le g with e9 | g
  · subst e9
    exact lv_tableIn (off := 1749) (tgt := 1793) hx hb dL_law_44 (by decide +kernel) (by decide +kernel) (by decide +kernel) (by decide) (case_27 hC hq hn0 hc1 hs1 kk s9 H locs ls hI hP hD hS hl)
  have g : 28 ≤ k := g
  rcases Nat.eq_or_lt_of_le g with e9 | g
  · subst e9
    exact lv_tableIn (off := 1762) (tgt := 1806) hx hb dL_law_44 (by decide +kernel) (by decide +kernel) (by decide +kernel) (by decide) (case_28 hC hq hn0 hc1 hs1 kk s9 H locs ls hI hP hD hS hl)
  have g : 29 ≤ k := g
  rcases Nat.eq_or_lt_of_le g with e9 | g
  · subst e9
    exact lv_tableIn (off := 1818) (tgt := 1862) hx hb dL_law_44 (by decide +kernel) (by decide +kernel) (by decide +kernel) (by decide) (case_29 hC hq hn0 hc1 hs1 kk s9 H locs ls hI hP hD hS hl)
  have g : 30 ≤ k := g
  rcases Nat.eq_or_lt_of_le g with e9 | g
  · subst e9
    exact lv_tableIn (off := 1874) (tgt := 1918) hx hb dL_law_44 (by decide +kernel) (by decide +kernel) (by decide +kernel) (by decide) (case_30 hC hq hn0 hc1 hs1 kk s9 H locs ls hI hP hD hS hl)
  have g : 31 ≤ k := g
  rcases Nat.eq_or_lt_of_le g with e9 | g
  · subst e9
    exact lv_tableIn (off := 1930) (tgt := 1974) hx hb dL_law_44 (by decide +kernel) (by decide +kernel) (by decide +kernel) (by decide) (case_31 hC hq hn0 hc1 hs1 kk s9 H locs ls hI hP hD hS hl)
  have g : 32 ≤ k := g
  rcases Nat.eq_or_lt_of_le g with e9 | g
  · subst e9
    exact lv_tableIn (off := 1993) (tgt := 2037) hx hb dL_law_44 (by decide +kernel) (by decide +kernel) (by decide +kernel) (by decide) (case_32 hC hq hn0 hc1 hs1 kk s9 H locs ls hI hP hD hS hl)
  have g : 33 ≤ k := g
  rcases Nat.eq_or_lt_of_le g with e9 | g
  · subst e9
    exact lv_tableIn (off := 2049) (tgt := 2093) hx hb dL_law_44 (by decide +kernel) (by decide +kernel) (by decide +kernel) (by decide) (case_33 hC hq hn0 hc1 hs1 kk s9 H locs ls hI hP hD hS hl)
  have g : 34 ≤ k := g
  rcases Nat.eq_or_lt_of_le g with e9 | g
  · subst e9
    exact lv_tableIn (off := 2105) (tgt := 2149) hx hb dL_law_44 (by decide +kernel) (by decide +kernel) (by decide +kernel) (by decide) (case_34 hC hq hn0 hc1 hs1 kk s9 H locs ls hI hP hD hS hl)
  have g : 35 ≤ k := g
  rcases Nat.eq_or_lt_of_le g with e9 | g
  · subst e9
    exact lv_tableIn (off := 2118) (tgt := 2162) hx hb dL_law_44 (by decide +kernel) (by decide +kernel) (by decide +kernel) (by decide) (case_35 hC hq hn0 hc1 hs1 kk s9 H locs ls hI hP hD hS hl)
  have g : 36 ≤ k := g
  rcases Nat.eq_or_lt_of_le g with e9 | g
  · subst e9
    exact lv_tableIn (off := 2174) (tgt := 2218) hx hb dL_law_44 (by decide +kernel) (by decide +kernel) (by decide +kernel) (by decide) (case_36 hC hq hn0 hc1 hs1 kk s9 H locs ls hI hP hD hS hl)
  have g : 37 ≤ k := g
  rcases Nat.eq_or_lt_of_le g with e9 | g
  · subst e9
    exact lv_tableIn (off := 2230) (tgt := 2274) hx hb dL_law_44 (by decide +kernel) (by decide +kernel) (by decide +kernel) (by decide) (case_37 hC hq hn0 hc1 hs1 kk s9 H locs ls hI hP hD hS hl)
  have g : 38 ≤ k := g
  rcases Nat.eq_or_lt_of_le g with e9 | g
  · subst e9
    exact lv_tableIn (off := 2286) (tgt := 2330) hx hb dL_law_44 (by decide +kernel) (by decide +kernel) (by decide +kernel) (by decide) (case_38 hC hq hn0 hc1 hs1 kk s9 H locs ls hI hP hD hS hl)
  have g : 39 ≤ k := g
  rcases Nat.eq_or_lt_of_le g with e9 | g
  · subst e9
    exact lv_tableIn (off := 2299) (tgt := 2343) hx hb dL_law_44 (by decide +kernel) (by decide +kernel) (by decide +kernel) (by decide) (case_39 hC hq hn0 hc1 hs1 kk s9 H locs ls hI hP hD hS hl)
  have g : 40 ≤ k := g
  rcases Nat.eq_or_lt_of_le g with e9 | g
  · subst e9
    exact lv_tableIn (off := 2312) (tgt := 2356) hx hb dL_law_44 (by decide +kernel) (by decide +kernel) (by decide +kernel) (by decide) (case_40 hC hq hn0 hc1 hs1 kk s9 H locs ls hI hP hD hS hl)
  have g : 41 ≤ k := g
  rcases Nat.eq_or_lt_of_le g with e9 | g
  · subst e9
    exact lv_tableIn (off := 2325) (tgt := 2369) hx hb dL_law_44 (by decide +kernel) (by decide +kernel) (by decide +kernel) (by decide) (case_41 hC hq hn0 hc1 hs1 kk s9 H locs ls hI hP hD hS hl)
  have g : 42 ≤ k := g
  rcases Nat.eq_or_lt_of_le g with e9 | g
  · subst e9
    exact lv_tableIn (off := 2338) (tgt := 2382) hx hb dL_law_44 (by decide +kernel) (by decide +kernel) (by decide +kernel) (by decide) (case_42 hC hq hn0 hc1 hs1 kk s9 H locs ls hI hP hD hS hl)
  have g : 43 ≤ k := g
  rcases Nat.eq_or_lt_of_le g with e9 | g
  · subst e9
    exact lv_tableIn (off := 2351) (tgt := 2395) hx hb dL_law_44 (by decide +kernel) (by decide +kernel) (by decide +kernel) (by decide) (case_43 hC hq hn0 hc1 hs1 kk s9 H locs ls hI hP hD hS hl)
  have g : 44 ≤ k := g
  rcases Nat.eq_or_lt_of_le g with e9 | g
  · subst e9
    exact lv_tableIn (off := 2364) (tgt := 2408) hx hb dL_law_44 (by decide +kernel) (by decide +kernel) (by decide +kernel) (by decide) (case_44 hC hq hn0 hc1 hs1 kk s9 H locs ls hI hP hD hS hl)
  have g : 45 ≤ k := g
  rcases Nat.eq_or_lt_of_le g with e9 | g
  · subst e9
    exact lv_tableIn (off := 2430) (tgt := 2474) hx hb dL_law_44 (by decide +kernel) (by decide +kernel) (by decide +kernel) (by decide) (case_45 hC hq hn0 hc1 hs1 kk s9 H locs ls hI hP hD hS hl)
  have g : 46 ≤ k := g
  rcases Nat.eq_or_lt_of_le g with e9 | g
  · subst e9
    exact lv_tableIn (off := 2443) (tgt := 2487) hx hb dL_law_44 (by decide +kernel) (by decide +kernel) (by decide +kernel) (by decide) (case_46 hC hq hn0 hc1 hs1 kk s9 H locs ls hI hP hD hS hl)
  have g : 47 ≤ k := g
  rcases Nat.eq_or_lt_of_le g with e9 | g
  · subst e9
    exact lv_tableIn (off := 2499) (tgt := 2543) hx hb dL_law_44 (by decide +kernel) (by decide +kernel) (by decide +kernel) (by decide) (case_47 hC hq hn0 hc1 hs1 kk s9 H locs ls hI hP hD hS hl)
  have g : 48 ≤ k := g
  rcases Nat.eq_or_lt_of_le g with e9 | g
  · subst e9
    exact lv_tableIn (off := 2555) (tgt := 2599) hx hb dL_law_44 (by decide +kernel) (by decide +kernel) (by decide +kernel) (by decide) (case_48 hC hq hn0 hc1 hs1 kk s9 H locs ls hI hP hD hS hl)
  have g : 49 ≤ k := g
  rcases Nat.eq_or_lt_of_le g with e9 | g
  · subst e9
    exact lv_tableIn (off := 2613) (tgt := 2657) hx hb dL_law_44 (by decide +kernel) (by decide +kernel) (by decide +kernel) (by decide) (case_49 hC hq hn0 hc1 hs1 kk s9 H locs ls hI hP hD hS hl)
  have g : 50 ≤ k := g
  rcases Nat.eq_or_lt_of_le g with e9 | g
  · subst e9
    exact lv_tableIn (off := 2657) (tgt := 2701) hx hb dL_law_44 (by decide +kernel) (by decide +kernel) (by decide +kernel) (by decide) (case_50 hC hq hn0 hc1 hs1 kk s9 H locs ls hI hP hD hS hl)
  have g : 51 ≤ k := g
  rcases Nat.eq_or_lt_of_le g with e9 | g
  · subst e9
    exact lv_tableIn (off := 2701) (tgt := 2745) hx hb dL_law_44 (by decide +kernel) (by decide +kernel) (by decide +kernel) (by decide) (case_51 hC hq hn0 hc1 hs1 kk s9 H locs ls hI hP hD hS hl)
  have g : 52 ≤ k := g
  rcases Nat.eq_or_lt_of_le g with e9 | g
  · subst e9
    exact lv_tableIn (off := 2745) (tgt := 2789) hx hb dL_law_44 (by decide +kernel) (by decide +kernel) (by decide +kernel) (by decide) (case_52 hC hq hn0 hc1 hs1 kk s9 H locs ls hI hP hD hS hl)
  have g : 53 ≤ k := g
  rcases Nat.eq_or_lt_of_le g with e9 | g
  · subst e9
    exact lv_tableIn (off := 2789) (tgt := 2833) hx hb dL_law_44 (by decide +kernel) (by decide +kernel) (by decide +kernel) (by decide) (case_53 hC hq hn0 hc1 hs1 kk s9 H locs ls hI hP hD hS hl)
  have g : 54 ≤ k := g
  rcases Nat.eq_or_lt_of_le g with e9 | g
  · subst e9
    exact lv_tableIn (off := 2802) (tgt := 2846) hx hb dL_law_44 (by decide +kernel) (by decide +kernel) (by decide +kernel) (by decide) (case_54 hC hq hn0 hc1 hs1 kk s9 H locs ls hI hP hD hS hl)
  have g : 55 ≤ k := g
  refine lv_tableOut (tgt := 2890) hx hb dL_law_44 (Or.inr (by rw [nI_toInt (by omega)]; omega)) (by decide) ?_
  refine W.widen (k := cells + 1) (n := slots + 6) (by omega) (by omega) ?_
  exact kk s9 H locs ls (LI.mono hI (by omega)) hP hD hS hl
set_option maxRecDepth 100000 in
set_option maxHeartbeats 4000000 in
theorem law_loop {p : Program} {l : Launch} {e : Env} {s : State} {m : MethodId} {below : List Frame} {meth : Method} {cq : Code} {G : va_G} {cy : Nat → ClassId} {kS vS : Nat → Nat} {A : Nat → Prop} {a : LA} {b L : Nat} {xs : Nat → Int32} (hC : LC l p s m meth cq G cy kS vS A b L xs) (hr : meth.sig.returnType = ret) (hlocks : meth.locks = false) (hA3 : ∀ q, A q → s.heap.size ≤ q) : ∀ (d q n0 cells slots : Nat), 4 * q ≤ L → L < 4 * q + 4 * d → n0 + 300 * d ≤ 900000 → cells + d ≤ 600000 → slots + 6 * d ≤ 7000000 → LGo p l e s m below meth cq G cy A a b q (lw_Z below #[Value.ref b] s) n0 cells slots 28
  | 0, q, n0, cells, slots, h1, h2, _, _, _ => absurd h2 (by omega)
  | d + 1, q, n0, cells, slots, h1, h2, h3, h4, h5 => by
    intro s9 H locs ls hI hP hD hS hl
    obtain ⟨hx, hb, hml, hown, hts⟩ := id hC.S9
    have hL9 := hC.hL
    have hc9 : 600000 ≤ room_1.cells := Nat.le_of_ble_eq_true rfl
    have hs9 : 7000000 ≤ room_1.slots := Nat.le_of_ble_eq_true rfl
    refine lv_iload hx hb dL_law_28 (lv_at hl 0 rfl) ?_
    refine lv_aload_n hx hb dL_law_30 rfl (lv_at hl 5 rfl) ?_
    refine va_slen hx hb hC.hX hC.hbl hC.hbA hS dL_law_31 ?_
    refine lv_iconst (v := 4) hx hb dL_law_32 (by decide) ?_
    refine lv_isub hx hb dL_law_33 ?_
    have eL : (Int32.ofNat L).toInt = (L : Int) := nI_toInt (by omega)
    have eL4 : (Int32.ofNat L - 4).toInt = (L : Int) - 4 := ti_sub eL (by decide) (by omega) (by omega)
    have eq4 : (nI (4 * q)).toInt = ((4 * q : Nat) : Int) := nI_toInt (by omega)
    refine lv_icmp_gt (tgt := 2896) hx hb dL_law_34 (by decide) (fun c_34 => ?_) (fun c_34 => ?_)
    · refine va_forget (fun q hq => hA3 _ (hS.2.2 q hq)) ?_
      refine W.widen (k := 603072) (n := 7215210) (by omega) (by omega) ?_
      refine lv_iconst (v := 1) hx hb dL_law_2896 (by decide) ?_
      refine W.base ?_
      exact lw_ret (Drawn.sameBut.refl s.drawn lw_cs) hx hb hr hlocks dL_law_2897
    · have hq4 : 4 * q + 4 ≤ L := by
        rw [Int32.lt_iff_toInt_lt, eL4, eq4] at c_34
        omega
      refine lv_aload_n hx hb dL_law_37 rfl (lv_at hl 5 rfl) ?_
      refine lv_iload hx hb dL_law_38 (lv_at hl 0 rfl) ?_
      refine m_sld (v := xs (4 * q)) hx hb hC.hX hC.hbl hC.hbA hS (k := 4 * q) rfl (by omega) hC.hL rfl dL_law_40 ?_
      refine lv_bipush (v := 63) hx hb dL_law_41 (by decide) ?_
      refine lv_iand hx hb dL_law_43 ?_
      obtain ⟨k, hk, ek⟩ := and63 (xs (4 * q))
      rw [ek]
      refine law_sw hC hq4 (by omega) (Nat.le_trans (by omega) hc9) (Nat.le_trans (by omega) hs9) ?_ hI hP hD hS hl k hk
      intro s9 H locs ls hI hP hD hS hl
      refine lv_iinc (v := nI (4 * (q + 1))) (k := 0) (lv' := [(5, .int (nI (4 * (q + 1)))), (4, .ref a.oD), (3, .ref a.oA), (2, .ref a.am), (1, .ref a.aX), (0, .ref b)]) hx hb dL_law_2890 hl rfl (m_add (b := 4) rfl (by decide)) (by decide) rfl (fun ls hl => ?_)
      refine lv_goto (tgt := 28) hx hb dL_law_2893 (by decide) ?_
      exact law_loop hC hr hlocks hA3 d (q + 1) (n0 + 300) (cells + 1) (slots + 6) (by omega) (by omega) (by omega) (by omega) (by omega) s9 H locs ls hI hP hD hS hl
