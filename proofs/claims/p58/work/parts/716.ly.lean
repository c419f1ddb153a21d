/-! texts in the law: what its methods take -/
def PU9 (G : va_G) (cy : Nat → ClassId) (kS vS : Nat → Nat) (w : va_W) : State → Prop := fun U => PX G cy w U ∧ PD G cy kS vS w U
theorem out_in {b : Int32} {n : Nat} (hn : n ≤ 16) (h1 : ¬ b < 0) (h2 : b < nI n) : inR b 0 (nI n - 1) = true := by
  refine inR_iff.mpr ⟨h1, fun z => ?_⟩
  rw [Int32.lt_iff_toInt_lt, nI_toInt (by omega)] at h2
  rw [Int32.lt_iff_toInt_lt, ti_sub (nI_toInt (by omega)) (show (1 : Int32).toInt = 1 from by decide) (by omega) (by omega)] at z
  omega
set_option maxRecDepth 100000 in
set_option maxHeartbeats 1000000 in
theorem t_outputAt_1 (l : Launch) (G : va_G) (cy : Nat → ClassId) (kS vS : Nat → Nat) (aX : Nat) (na tr sn : Nat → Nat) (hs : Int32) (hi sc : Nat) (ep fc : Int32) (ob vb n : Nat) (ml : Int32) (f : Nat → Int32) (σ : St) (b : Int32) (hl9 : l.stackTraces = false) (hn9 : n ≤ 16) (hF : ¬ inR b 0 (nI n - 1) = true) : TX l yX7_outputAt wsX7_outputAt { frames := 6, cells := 1, slots := 6, locals := 90 } G (PU9 G cy kS vS (fl [[(aX, .inr (11, [.ref (na 0), .ref (tr 0), .ref (sn 0), .int hs, .ref hi, .ref sc, .int ep, .int fc, .ref ob]))], sWd cy na σ, [(ob, .inr (1, [.ref vb, .int 0, .int ml, .int (nI n)]))], [(vb, .inl (cy 0, 16, .inl f))]])) [.ref aX, .int b] (fl [[(aX, .inr (11, [.ref (na 0), .ref (tr 0), .ref (sn 0), .int hs, .ref hi, .ref sc, .int ep, .int fc, .ref ob]))], sWd cy na σ, [(ob, .inr (1, [.ref vb, .int 0, .int ml, .int (nI n)]))], [(vb, .inl (cy 0, 16, .inl f))]]) (fl [[(aX, .inr (11, [.ref (na 0), .ref (tr 0), .ref (sn 0), .int hs, .ref hi, .ref sc, .int ep, .int fc, .ref ob]))], sWd cy na σ, [(ob, .inr (1, [.ref vb, .int 0, .int ml, .int (nI n)]))], [(vb, .inl (cy 0, 16, .inl f))]]) xIOB := by
  refine TX.ofW (cc := cX7_outputAt) (maxL := 2) (ret := (some .char)) (by decide) rfl (Nat.le_of_ble_eq_true rfl) ?_
  intro p e s m below meth cq S9 htb hlocks hPB hD hS ls hl
  obtain ⟨hxq, hb, hml, hown, hts⟩ := id S9
  obtain ⟨⟨⟨⟨hP, hK⟩, hTZ⟩, hXS⟩, ⟨-, hSK⟩, hDZ⟩ := hPB
  have hl : lv_has ls 2 [(0, .ref aX), (1, .int b)] := hl
  have hi11 : ∀ w ∈ wsX70, w ∈ wsX7_outputAt := by decide +kernel
  have hf50 := hts (.fieldLink RX7 50 "BathLeague" "output" "Ljava/lang/StringBuilder;") (by decide +kernel)
  refine lv_iload_n hxq hb dX7_outputAt_0 rfl (lv_at hl 1 rfl) ?_
  refine lv_if_lt (tgt := 15) hxq hb dX7_outputAt_1 (by decide) (fun c_1 => ?_) (fun c_1 => ?_)
  · have c_1' : ¬ 0 ≤ b := Int32.not_le.mpr c_1
    exact tx_newW (text := "the output text has no such index") S9 hl9 hXS exIOB (by decide +kernel) (by decide +kernel) (by decide +kernel) (fun w h => List.mem_cons_of_mem _ (List.mem_append_right _ h)) htb hlocks hP hS hl.1 dX7_outputAt_15 dX7_outputAt_18 dX7_outputAt_19 dX7_outputAt_22 dX7_outputAt_25 ⟨Nat.le_of_ble_eq_true rfl, Nat.le_of_ble_eq_true rfl, Nat.le_of_ble_eq_true rfl, Nat.le_of_ble_eq_true rfl⟩
  · have c_1' : 0 ≤ b := Int32.not_lt.mp c_1
    refine lv_iload_n hxq hb dX7_outputAt_4 rfl (lv_at hl 1 rfl) ?_
    refine lv_aload_n hxq hb dX7_outputAt_5 rfl (lv_at hl 0 rfl) ?_
    refine va_get (D := G) (ci := 11) (v := .ref ob) (C := RX7) (T := TX7) (N := 9) hxq hb hts hi11 hown hK.1 hP 0 rfl rfl 8 (by decide) hf50 (fun _ h9 => h9) rfl dX7_outputAt_6 ?_
    refine c_roVi S9 (c_J4_length_8abf5 l G cy kS vS ob vb n ml f) (cwV 0 hts gX7_outputAt_J4_length_8abf5 rfl rfl rfl (by decide +kernel) ⟨Nat.le_of_ble_eq_true rfl, Nat.le_of_ble_eq_true rfl⟩) PD.blind (va_recv hK.1 hP (ci := 1) (q0 := 18) rfl rfl) (PD.at hDZ hSK hS (wA_subF hD [2, 3] (cs := [[(ob, .inr (1, [.ref vb, .int 0, .int ml, .int (nI n)]))], [(vb, .inl (cy 0, 16, .inl f))]]) rfl) hK (PpartC (Wc := [[(aX, .inr (11, [.ref (na 0), .ref (tr 0), .ref (sn 0), .int hs, .ref hi, .ref sc, .int ep, .int fc, .ref ob]))], sWd cy na σ, [(ob, .inr (1, [.ref vb, .int 0, .int ml, .int (nI n)]))], [(vb, .inl (cy 0, 16, .inl f))]]) (cs := [[(ob, .inr (1, [.ref vb, .int 0, .int ml, .int (nI n)]))], [(vb, .inl (cy 0, 16, .inl f))]]) hP [2, 3] rfl)) rfl hl.1 rfl (Nat.le_of_ble_eq_true rfl) ⟨Nat.zero_le _, Nat.zero_le _⟩ dX7_outputAt_9 ?_
    refine lv_icmp_lt (tgt := 26) hxq hb dX7_outputAt_12 (by decide) (fun c_2 => ?_) (fun c_2 => ?_)
    · exact absurd (out_in hn9 c_1 c_2) hF
    · have c_2' : (nI n) ≤ b := Int32.not_lt.mp c_2
      exact tx_newW (text := "the output text has no such index") S9 hl9 hXS exIOB (by decide +kernel) (by decide +kernel) (by decide +kernel) (fun w h => List.mem_cons_of_mem _ (List.mem_append_right _ h)) htb hlocks hP hS hl.1 dX7_outputAt_15 dX7_outputAt_18 dX7_outputAt_19 dX7_outputAt_22 dX7_outputAt_25 ⟨Nat.le_of_ble_eq_true rfl, Nat.le_of_ble_eq_true rfl, Nat.le_of_ble_eq_true rfl, Nat.le_of_ble_eq_true rfl⟩
set_option maxRecDepth 100000 in
set_option maxHeartbeats 1000000 in
theorem o_outputAt1 (l : Launch) (G : va_G) (cy : Nat → ClassId) (kS vS : Nat → Nat) (a : OA) (V : OV) (u : OU) (b : Int32) (hl9 : l.stackTraces = false) (hn9 : V.nb ≤ 16) (hF : ¬ inR b 0 (nI V.nb - 1) = true) : TX l yX7_outputAt wsL_law { frames := 10, cells := 1, slots := 6, locals := 190 } G (PQ G cy kS vS (OW cy a V u)) [.ref a.aX, .int b] (OW cy a V u) (OW cy a V u) xIOB :=
  TX.lift (Wc := OWc cy a V u) (Wn := OWc cy a V u) (cs := [[(a.aX, .inr (11, [.ref (a.na 0), .ref (a.tr 0), .ref (a.sn 0), .int u.hs, .ref a.hi, .ref a.sc, .int u.ep, .int u.fc, .ref a.ob]))], sWd cy a.na V.σ, [(a.ob, .inr (1, [.ref a.vb, .int 0, .int u.ml, .int (nI V.nb)]))], [(a.vb, .inl (cy 0, 16, .inl V.fb))]]) (ns := [[(a.aX, .inr (11, [.ref (a.na 0), .ref (a.tr 0), .ref (a.sn 0), .int u.hs, .ref a.hi, .ref a.sc, .int u.ep, .int u.fc, .ref a.ob]))], sWd cy a.na V.σ, [(a.ob, .inr (1, [.ref a.vb, .int 0, .int u.ml, .int (nI V.nb)]))], [(a.vb, .inl (cy 0, 16, .inl V.fb))]]) (t_outputAt_1 l G cy kS vS a.aX a.na a.tr a.sn u.hs a.hi a.sc u.ep u.fc a.ob a.vb V.nb u.ml V.fb V.σ b hl9 hn9 hF) (fun U h => ⟨PQ.X (Wc := OWc cy a V u) (cs := [[(a.aX, .inr (11, [.ref (a.na 0), .ref (a.tr 0), .ref (a.sn 0), .int u.hs, .ref a.hi, .ref a.sc, .int u.ep, .int u.fc, .ref a.ob]))], sWd cy a.na V.σ, [(a.ob, .inr (1, [.ref a.vb, .int 0, .int u.ml, .int (nI V.nb)]))], [(a.vb, .inl (cy 0, 16, .inl V.fb))]]) h [0, 1, 13, 14] rfl, PQ.D (Wc := OWc cy a V u) (cs := [[(a.aX, .inr (11, [.ref (a.na 0), .ref (a.tr 0), .ref (a.sn 0), .int u.hs, .ref a.hi, .ref a.sc, .int u.ep, .int u.fc, .ref a.ob]))], sWd cy a.na V.σ, [(a.ob, .inr (1, [.ref a.vb, .int 0, .int u.ml, .int (nI V.nb)]))], [(a.vb, .inl (cy 0, 16, .inl V.fb))]]) h [0, 1, 13, 14] rfl⟩) (fun U h => PQ.W (Wc := OWc cy a V u) h) [0, 1, 13, 14] rfl (by decide) (SameL.cons SameA.rf (SameL.cons SameA.rf (SameL.cons SameA.rf (SameL.cons SameA.rf SameL.nil)))) rfl sub_X7_outputAt ⟨Nat.le_of_ble_eq_true rfl, Nat.le_of_ble_eq_true rfl, Nat.le_of_ble_eq_true rfl, Nat.le_of_ble_eq_true rfl⟩
set_option maxRecDepth 100000 in
set_option maxHeartbeats 1000000 in
theorem q_outputAt_1 (l : Launch) (G : va_G) (cy : Nat → ClassId) (kS vS : Nat → Nat) (a : OA) (V : OV) (b : Int32) (hl9 : l.stackTraces = false) (hn9 : V.nb ≤ 16) (hF : ¬ inR b 0 (nI V.nb - 1) = true) : LQ l yL_outputAt 11 220 1 G cy kS vS a V V [.ref a.aX, .int b] (.int (-11)) := by
  refine LX.ofWX (cc := cL_outputAt) (maxL := 3) (ret := (some .int)) (hh := [(0, 5, 6, 20)]) (by decide) (big_at 41 1 rfl) (Nat.le_of_ble_eq_true rfl) ?_
  intro p e s m below meth cq u S9 hr hlocks htab hPQ hD hS hA ls hl
  obtain ⟨hx, hb, hml, hown, hts⟩ := id S9
  have hLF := LF.mk hPQ
  have hP := hPQ.1.1
  have hl : lv_has ls 3 [(0, .ref a.aX), (1, .int b)] := hl
  refine lv_aload_n hx hb dL_outputAt_0 rfl (lv_at hl 0 rfl) ?_
  refine lv_iload_n hx hb dL_outputAt_1 rfl (lv_at hl 1 rfl) ?_
  refine wr_T S9 hLF (o_outputAt1 l G cy kS vS a V u b hl9 hn9 hF) (bigV 1 hts (big_at 41 2 rfl) (big_at 0 6 rfl) (big_at 41 5 rfl) (big_at 41 3 rfl) (big_at 41 4 rfl) rfl rfl (by decide +kernel) ⟨Nat.le_of_ble_eq_true rfl, Nat.le_of_ble_eq_true rfl⟩) hP hD hS hA rfl hl.1 rfl (Nat.le_of_ble_eq_true rfl) ⟨Nat.le_of_ble_eq_true rfl, Nat.le_of_ble_eq_true rfl⟩ dL_outputAt_2 (tableOf []) ⟨0, 5, 6, 20⟩ (tableOf []) (htab.trans rfl) (by intro z hz; cases hz) (by decide) (by decide) (nwl hLF.2.2.1 (.classLink RL 20 xIOB) (by decide +kernel)) (hLF.2.2.1.2.2.1 (.castable xIOB xIOB) (by decide +kernel)) (fun H locs qx hP hD hS => ?_)
  refine lv_astore_n (lv' := [(2, .ref qx), (0, .ref a.aX), (1, .int b)]) hx hb dL_outputAt_6 rfl hl (by decide) rfl (fun ls hl => ?_)
  refine lv_bipush (v := (-11)) hx hb dL_outputAt_7 (by decide) ?_
  exact lx_iret (ex := []) hx hb hr hlocks ⟨rfl, rfl⟩ hP hS (Nat.le_of_ble_eq_true rfl) (Nat.le_of_ble_eq_true rfl) dL_outputAt_9
set_option maxRecDepth 100000 in
set_option maxHeartbeats 1000000 in
theorem n_runs (l : Launch) (G : va_G) (cy : Nat → ClassId) (kS vS : Nat → Nat) (a : OA) (V : OV) (n0 : Nat) (hl9 : l.stackTraces = false) (hI : Inv n0 V.σ) (hn0 : n0 + 2000 < 2147483648) (hL : V.LN ≤ 60) (hcz : czN 60 V.f) (hnx : V.nx < 8) (hct : V.ct ≤ 8) : LX l yL_runs 11 220 1 G cy kS vS a V [.ref a.aX] (fun V2 r2 => (∃ (n9 : Nat) (τ9 : St), V2 = OV.mk τ9 (updR V.ρ V.nx V.σ) ((V.nx + 1) % 8) (kInc V.ct) 0 V.f V.nb V.fb ∧ r2 = .int (nI n9) ∧ n9 ≤ 13 ∧ Inv (n0 + 20 * 13) τ9) ∨ (V2 = OV.mk V.σ V.ρ V.nx V.ct 0 V.f V.nb V.fb ∧ (r2 = .int (-1) ∨ r2 = .int (-2)))) := by
  refine LX.ofWX (cc := cL_runs) (maxL := 2) (ret := (some .int)) (hh := [(0, 4, 5, 22), (0, 4, 8, 14)]) (by decide) (big_at 48 11 rfl) (Nat.le_of_ble_eq_true rfl) ?_
  intro p e s m below meth cq u S9 hr hlocks htab hPQ hD hS hA ls hl
  obtain ⟨hx, hb, hml, hown, hts⟩ := id S9
  have hLF := LF.mk hPQ
  have hP := hPQ.1.1
  have hl : lv_has ls 2 [(0, .ref a.aX)] := hl
  obtain ⟨R9, hR0⟩ : ∃ z, lpC V.f V.LN 13 (0, false) (0, u.gk, u.g1, u.g2, u.g3) = z := ⟨_, rfl⟩
  have hlp := lpC_n (f := V.f) (L := V.LN) 13 (0, false) (0, u.gk, u.g1, u.g2, u.g3) (Nat.zero_le _) (Nat.zero_le _)
  rw [hR0] at hlp
  have hc13 := hlp.2
  refine lv_aload_n hx hb dL_runs_0 rfl (lv_at hl 0 rfl) ?_
  cases hm : R9.1.2 with
  | true =>
    refine wr_T S9 hLF (o_runScript1 l G cy kS vS a V u R9 n0 hl9 hI hn0 hL hcz hR0 hc13 hnx hct hm) (bigV 0 hts (big_at 48 12 rfl) (big_at 0 6 rfl) (big_at 48 15 rfl) (big_at 48 13 rfl) (big_at 48 14 rfl) rfl rfl (by decide +kernel) ⟨Nat.le_of_ble_eq_true rfl, Nat.le_of_ble_eq_true rfl⟩) hP hD hS hA rfl hl.1 rfl (Nat.le_of_ble_eq_true rfl) ⟨Nat.le_of_ble_eq_true rfl, Nat.le_of_ble_eq_true rfl⟩ dL_runs_1 (tableOf []) ⟨0, 4, 5, 22⟩ (tableOf [(0, 4, 8, 14)]) (htab.trans rfl) (by intro z hz; cases hz) (by decide) (by decide) (nwl hLF.2.2.1 (.classLink RL 22 xIAE) (by decide +kernel)) (hLF.2.2.1.2.2.1 (.castable xIAE xIAE) (by decide +kernel)) (fun H locs qx hP hD hS => ?_)
    refine lv_astore_n (lv' := [(1, .ref qx), (0, .ref a.aX)]) hx hb dL_runs_5 rfl hl (by decide) rfl (fun ls hl => ?_)
    refine lv_iconst (v := (-1)) hx hb dL_runs_6 (by decide) ?_
    exact lx_iret (ex := []) hx hb hr hlocks (Or.inr ⟨rfl, Or.inl rfl⟩) hP hS (Nat.le_of_ble_eq_true rfl) (Nat.le_of_ble_eq_true rfl) dL_runs_7
  | false =>
    obtain ⟨R8, hR8⟩ : ∃ z, rnC R9.2 0 R9.2.1 V.σ = z := ⟨_, rfl⟩
    have hrn := (rnC_in (g := R9.2) R9.2.1 0 n0 V.σ hI (by omega)).1
    rw [hR8] at hrn
    obtain ⟨τ9, o9⟩ := R8
    cases o9 with
    | none =>
      refine wr_V S9 hLF (o_runScript l G cy kS vS a V u R9 n0 τ9 hI hn0 hL hcz hR0 hc13 hnx hct hm hR8) (bigV 0 hts (big_at 48 12 rfl) (big_at 0 6 rfl) (big_at 48 15 rfl) (big_at 48 13 rfl) (big_at 48 14 rfl) rfl rfl (by decide +kernel) ⟨Nat.le_of_ble_eq_true rfl, Nat.le_of_ble_eq_true rfl⟩) hP hD hS hA rfl hl.1 rfl (Nat.le_of_ble_eq_true rfl) ⟨Nat.zero_le _, Nat.zero_le _⟩ dL_runs_1 (fun H locs hP hD hS => ?_)
      exact lx_iret (ex := []) hx hb hr hlocks (Or.inl ⟨R9.2.1, τ9, rfl, rfl, hc13, hrn.mono (by omega)⟩) hP hS (Nat.zero_le _) (Nat.zero_le _) dL_runs_4
    | some i8 =>
      refine wr_T S9 hLF (o_runScript2 l G cy kS vS a V u R9 n0 τ9 i8 hl9 hI hn0 hL hcz hR0 hc13 hnx hct hm hR8) (bigV 0 hts (big_at 48 12 rfl) (big_at 0 6 rfl) (big_at 48 15 rfl) (big_at 48 13 rfl) (big_at 48 14 rfl) rfl rfl (by decide +kernel) ⟨Nat.le_of_ble_eq_true rfl, Nat.le_of_ble_eq_true rfl⟩) hP hD hS hA rfl hl.1 rfl (Nat.le_of_ble_eq_true rfl) ⟨Nat.le_of_ble_eq_true rfl, Nat.le_of_ble_eq_true rfl⟩ dL_runs_1 (tableOf [(0, 4, 5, 22)]) ⟨0, 4, 8, 14⟩ (tableOf []) (htab.trans rfl) (by intro z hz; simp only [tableOf, List.map_cons, List.map_nil, List.mem_cons, List.not_mem_nil, or_false] at hz; rcases hz with rfl <;> first | exact Or.inr ⟨by decide, xIAE, nwl hLF.2.2.1 (.classLink RL 22 xIAE) (by decide +kernel), hLF.2.2.1.2.2.2.2 (xISE, xIAE) (by decide +kernel)⟩) (by decide) (by decide) (nwl hLF.2.2.1 (.classLink RL 14 xISE) (by decide +kernel)) (hLF.2.2.1.2.2.1 (.castable xISE xISE) (by decide +kernel)) (fun H locs qx hP hD hS => ?_)
      refine lv_astore_n (lv' := [(1, .ref qx), (0, .ref a.aX)]) hx hb dL_runs_8 rfl hl (by decide) rfl (fun ls hl => ?_)
      refine lv_bipush (v := (-2)) hx hb dL_runs_9 (by decide) ?_
      exact lx_iret (ex := []) hx hb hr hlocks (Or.inr ⟨rfl, Or.inr rfl⟩) hP hS (Nat.le_of_ble_eq_true rfl) (Nat.le_of_ble_eq_true rfl) dL_runs_11
/-- a constructor, as a method that makes -/
theorem GR.ofNW {T9 : Type} {l : Launch} {y : MethodName} {ws : List Cond} {rm : Room} {mc ms : Nat} {G : va_G} {cy : Nat → ClassId} {av : List Value} {w : va_W} {w' : T9 → va_W} (h : NW l y ws rm mc ms G cy av w w') (hsub : ∀ c ∈ ws, c ∈ wsL_law) : GR l y rm mc ms G (PN G cy w) av w (fun _ => True) w' (fun _ => none) := by
  intro sz
  refine Met.conv (h sz) hsub ⟨Nat.le_refl _, Nat.le_refl _, Nat.le_refl _, Nat.le_refl _⟩ (fun _ _ hp => hp) ?_ (Nat.le_refl _) (Nat.le_refl _) (fun _ hq => hq)
  rintro a s o t - ⟨⟨u, ho, -, hp, hd⟩, hf⟩
  exact ⟨u, trivial, ho, hp, hd, hf⟩
theorem BTx.nil : BTx 16 [] (fun _ => 0) := ⟨Or.inl rfl, Nat.zero_le _, fun _ _ => (by show fits .byte (.int 0) = true; decide), fun i hi => absurd hi (Nat.not_lt_zero i)⟩
theorem apart9 {G : va_G} {A : Nat → Prop} {wr w : va_W} {H : Heap} (hP : va_P G vwCl (wr ++ w) H) (hD : va_D A (wr ++ w)) {i x : Nat} {e : va_E} (hi : wr[i]? = some (x, e)) : ¬ va_A w H.size x := by
  have hlt := (List.getElem?_eq_some_iff.mp hi).1
  have hi2 : (wr ++ w)[i]? = some (x, e) := by rw [List.getElem?_append_left hlt]; exact hi
  rintro (⟨k, e2, hk⟩ | h)
  · have hk2 : (wr ++ w)[wr.length + k]? = some (x, e2) := by rw [List.getElem?_append_right (Nat.le_add_right _ _), Nat.add_sub_cancel_left]; exact hk
    have := hD.1 i (wr.length + k) _ _ hi2 hk2 rfl
    omega
  · have hc : ∃ cell, H[x]? = some cell := by
      have hp := hP i _ hi2
      cases e with
      | inl q => exact ⟨_, hp⟩
      | inr q =>
        obtain ⟨r, h1, cell, q1, -⟩ := hp
        exact ⟨cell, q1⟩
    obtain ⟨cell, hc⟩ := hc
    exact absurd (Array.getElem?_eq_some_iff.mp hc).1 (Nat.not_lt.mpr h)
theorem fl_two (Wr : List va_W) (a b : va_W) : fl (Wr ++ [a ++ b]) = fl (Wr ++ [a, b]) := by
  rw [fl_eq, fl_eq]
  simp
theorem DpartC {A : Nat → Prop} {Wc cs : List va_W} (hD : va_D A (fl Wc)) (js : List Nat) (hn : va_nd js = true) (h : js.map (fun j => Wc[j]?) = cs.map some) : va_D A (fl cs) := hD.sub (poss Wc js) (poss_nd hn) (poss_F h)
/-- with a fact at hand that the state's tables and old cells say -/
def LY (l : Launch) (y : MethodName) (F Lc k : Nat) (G : va_G) (cy : Nat → ClassId) (kS vS : Nat → Nat) (a : OA) (V : OV) (E : OU → State → Prop) (av : List Value) (R : OV → Value → Prop) : Prop := ∀ (u : OU) (sz : Nat), Met l y wsL_law { frames := F, cells := k, slots := 64 * k, locals := Lc } (va_Pc av (fun U => (U.heap.size = sz ∧ PQ G cy kS vS (OW cy a V u) U ∧ va_D (fun _ => True) (OW cy a V u)) ∧ E u U))
  (fun _ st o t => ∃ (V' : OV) (r : Value) (u' : OU), R V' r ∧ o = .returned (some r) ∧ va_P G vwCl (OW cy a V' u') t.heap ∧ va_F (va_A (OW cy a V u) sz) st t) k (64 * k) (va_A (OW cy a V u) sz)
theorem LY.ofW {l : Launch} {y : MethodName} {F Lc k : Nat} {G : va_G} {cy : Nat → ClassId} {kS vS : Nat → Nat} {a : OA} {V : OV} {E : OU → State → Prop} {av : List Value} {R : OV → Value → Prop} {cc : ByteArray} {maxL : Nat} {ret : Option FieldType} (hy : plainName y.cls = true) (hc : Cond.code y cc maxL ret ∈ wsL_law) (hn : (lg_sl av).length ≤ maxL)
    (body : ∀ (p : Program) (e : Env) (s : State) (m : MethodId) (below : List Frame) (meth : Method) (c : Code) (u : OU), CallFix p m c cc maxL s av.toArray wsL_law y.cls → meth.sig.returnType = ret → meth.locks = false → PQ G cy kS vS (OW cy a V u) s → E u s → va_D (va_A (OW cy a V u) s.heap.size) (OW cy a V u) → va_S (va_A (OW cy a V u) s.heap.size) s.heap s.heap [] → (∀ q, s.heap.size ≤ q → va_A (OW cy a V u) s.heap.size q) → ∀ ls : Array Slot, lv_has ls maxL (lv_args 0 av) →
      W p l e { frames := F, cells := k, slots := 64 * k, locals := Lc } s m av.toArray below meth c s.heap [] 0 0 (lxZ below av.toArray s G cy a V u R k) (F0 m 0 ls [])) : LY l y F Lc k G cy kS vS a V E av R := by
  intro u sz
  refine Met.conv (ws := Cond.code y cc maxL ret :: wsL_law) (Met.ofW hy rfl ?_) (fun w hw => by rcases List.mem_cons.mp hw with e | e; exact e ▸ hc; exact e) ⟨Nat.le_refl _, Nat.le_refl _, Nat.le_refl _, Nat.le_refl _⟩ (fun _ _ hp => hp) (fun _ _ _ _ _ q => q) (Nat.le_refl _) (Nat.le_refl _) (fun _ hq => hq)
  intro p e s m args below meth c s₁ B hml hv
  obtain ⟨rfl, ⟨rfl, hP, hD⟩, hX⟩ := hv
  rw [lg_entry_eq]
  exact body p e s m below meth c u ⟨B.exec, B.bytes, hml, findClass_of_methodNamed B.named, fun w hw => atoms_spec B.pre w (List.mem_cons_of_mem _ hw)⟩ B.returns B.notSynchronized hP hX hD.self58 va_S.rf (fun q h => Or.inr h) _ (lv_entry av hn)
section LYR
variable {p : Program} {l : Launch} {e : Env} {R0 : Room} {s : State} {m : MethodId} {args : Array Value} {below : List Frame} {meth : Method} {c : Code} {H H0 : Heap} {locs : List Loc} {cells slots : Nat} {Q : State → Prop}
variable {cc : ByteArray} {pc : Nat} {ls : Array Slot} {rest st0 : List Value} {G : va_G} {cy : Nat → ClassId} {kS vS : Nat → Nat} {A : Nat → Prop} {a : OA} {V : OV} {u : OU} {R : OV → Value → Prop} {ex : List va_W}
variable {y : MethodName} {bytes : ByteArray} {maxL nL n index F Lc k : Nat} {ret : Option FieldType} {Ts : List Cond} {own : String} {As : List Value} {E : OU → State → Prop}
theorem ly_S (S : CallFix p m c cc nL s args Ts own) (hF : LF G cy kS vS A s) (hM : LY l y F Lc k G cy kS vS a V E As R) (cw : CallB R0 s args own index y bytes maxL ret wsL_law { frames := F, cells := k, slots := 64 * k, locals := Lc } k (64 * k) n ∧ (Cond.static y).before args s = true) (hEb : ∀ (U : State) (g : JFrame) (mk : MethodId) (a : Array Value), E u U → E u (U.calling g mk a)) (hE : ∀ U : State, U.heap = H → s.WarmedH U.vm → E u U)
    (hP : va_P G vwCl (fl (OW cy a V u :: ex)) H) (hD : va_D A (fl (OW cy a V u :: ex))) (hS : va_S A s.heap H locs) (hA : ∀ q, s.heap.size ≤ q → A q) (hn : As.length = n) (hsize : ls.size = nL) (hstack : st0 = As.reverse ++ rest) (hW : (rest.map fun v => v.category).sum ≤ 8) {MC : Nat} (hR : MC = R0.cells ∧ 64 * MC = R0.slots) (b : Nat) (hc : cells + (b + k) ≤ MC) (hs : slots + 64 * (b + k) ≤ 64 * MC) (hdg : decode cc pc = .ok (.invokestatic index, 3))
    (kk : ∀ (V' : OV) (r : Value) (u' : OU) (H1 : Heap) (locs1 : List Loc) (cells1 slots1 : Nat), R V' r → cells1 + b ≤ MC → slots1 + 64 * b ≤ 64 * MC → va_P G vwCl (fl (OW cy a V' u' :: ex)) H1 → va_D A (fl (OW cy a V' u' :: ex)) → va_S A s.heap H1 locs1 → W p l e R0 s m args below meth c H1 locs1 cells1 slots1 Q (F0 m (pc + 3) ls (r :: rest))) : W p l e R0 s m args below meth c H locs cells slots Q (F0 m pc ls st0) := by
  have hC := OW_poss (cy := cy) (a := a) (V := V) (u := u) ex
  have hsub0 := wA_sub hD _ hC
  have hPo := m_Ppart hP _ hC
  refine lx_run (va_runS S (hM u H.size) cw ⟨fun b2 U g mk q => ⟨q.1, ⟨q.2.1.1, PQ.blind U g mk b2 q.2.1.2.1, q.2.1.2.2⟩, hEb U g mk b2 q.2.2⟩, fun U hU hW => ⟨rfl, ⟨by rw [hU], hF.pq hS hA hsub0 hPo U hU hW, m_Dpart hD _ (poss_nd (by decide)) hC⟩, hE U hU hW⟩⟩ (g := F0 m pc ls st0) rfl hn hsize hstack (lv_room hW) hdg ⟨by rw [← hR.1]; omega, by rw [← hR.2]; omega⟩) hP hD hS hA (fun V' r u' H1 locs1 q hP hD hS => kk V' r u' H1 locs1 _ _ q (by omega) (by omega) hP hD hS)
/-- a call over the last chunk -/
theorem lg_run {T9 : Type} {C9 : T9 → Prop} {w : va_W} {w' : T9 → va_W} {r : T9 → Option Value} {mc ms : Nat} {Wr : List va_W} (hr : va_Run p l e R0 s m args below meth c H locs cells slots mc ms (F0 m pc ls st0) rest (fun st oc t => ∃ u : T9, C9 u ∧ oc = .returned (r u) ∧ va_P G vwCl (w' u) t.heap ∧ va_D (va_A w H.size) (w' u) ∧ va_F (va_A w H.size) st t) (va_A w H.size)) (hP : va_P G vwCl (fl Wr ++ w) H) (hD : va_D A (fl Wr ++ w)) (hS : va_S A H0 H locs) (hA : ∀ q, H0.size ≤ q → A q) {MC : Nat} (b k : Nat) (hmc : mc ≤ k) (hms : ms ≤ 64 * k) (hc : cells + (b + k) ≤ MC) (hs : slots + 64 * (b + k) ≤ 64 * MC)
    (kk : ∀ (u : T9) (H1 : Heap) (locs1 : List Loc) (cells1 slots1 : Nat), C9 u → cells1 + b ≤ MC → slots1 + 64 * b ≤ 64 * MC → va_P G vwCl (fl (Wr ++ [w' u])) H1 → va_D A (fl (Wr ++ [w' u])) → va_S A H0 H1 locs1 → W p l e R0 s m args below meth c H1 locs1 cells1 slots1 Q (F0 m (pc + 3) ls ((r u).toList ++ rest))) : W p l e R0 s m args below meth c H locs cells slots Q (F0 m pc ls st0) := by
  refine g_run hr hP hD hS hA (fun u H1 locs1 hu hP hD hS => ?_)
  rw [fl_snoc] at hP hD
  exact kk u H1 locs1 _ _ hu (by omega) (by omega) hP hD hS
end LYR
