/-! doubles and floats: the quotients are numbers -/
theorem fp_settle (c : Nat) (q : Int) : FP.Core.encode FP.Core.b64 (FP.Core.settle FP.Core.b64 false c q) ≤ 9218868437227405312 := by
  have key : ∀ (c : Nat) (q : Int), c ≤ 9007199254740991 → FP.Core.encode FP.Core.b64 (FP.Core.bound FP.Core.b64 false c q) ≤ 9218868437227405312 := by
    intro c q hc
    unfold FP.Core.bound
    have e1 : FP.Core.b64.qmax = 971 := by decide
    have e2 : FP.Core.b64.qmin = -1074 := by decide
    have e3 : FP.Core.b64.tails = 4503599627370496 := by decide
    have e4 : FP.Core.b64.exps = 2048 := by decide
    split
    · next h =>
      rw [e1] at h
      simp only [FP.Core.encode, FP.Core.assemble, e2, e3, e4, Bool.toNat_false]
      split <;> omega
    · simp only [FP.Core.encode, FP.Core.assemble, e3, e4, Bool.toNat_false]
      omega
  unfold FP.Core.settle
  have e5 : (2 : Nat) ^ FP.Core.b64.p = 9007199254740992 := by decide
  have e6 : FP.Core.b64.tails = 4503599627370496 := by decide
  split
  · next h => rw [e5] at h; exact key _ _ (by omega)
  · rw [e6]; exact key _ _ (by omega)
theorem fp_n64 {n : Nat} (h : n ≤ 9218868437227405312) : vf_n64 (UInt64.ofNat n) := by
  unfold vf_n64
  rw [UInt64.le_iff_toNat_le, UInt64.toNat_and, UInt64.toNat_ofNat_of_lt' (by omega : n < 2 ^ 64)]
  have e : n &&& (0x7fffffffffffffff : UInt64).toNat = n % 2 ^ 63 := by
    rw [show (0x7fffffffffffffff : UInt64).toNat = 2 ^ 63 - 1 from by decide, Nat.and_two_pow_sub_one_eq_mod]
  rw [e, show (0x7ff0000000000000 : UInt64).toNat = 9218868437227405312 from by decide]
  omega
/-- a datum that is a number with the sign 0 -/
def fp_fin (z : Bool) : FP.Core.Datum → Bool
  | .fin false c _ => z || c != 0
  | _ => false
theorem fp_div {x y : UInt64} (hx : fp_fin true (FP.Core.decode FP.Core.b64 x.toNat) = true) (hy : fp_fin false (FP.Core.decode FP.Core.b64 y.toNat) = true) : vf_n64 (FP.ddiv x y) := by
  show vf_n64 (UInt64.ofNat (FP.Core.encode FP.Core.b64 (FP.Core.quotient FP.Core.b64 (FP.Core.decode FP.Core.b64 x.toNat) (FP.Core.decode FP.Core.b64 y.toNat))))
  refine fp_n64 ?_
  cases hdx : FP.Core.decode FP.Core.b64 x.toNat with
  | nan => rw [hdx] at hx; exact absurd hx (by decide)
  | inf s => rw [hdx] at hx; exact absurd hx (by simp [fp_fin])
  | fin s c q =>
    rw [hdx] at hx
    cases hdy : FP.Core.decode FP.Core.b64 y.toNat with
    | nan => rw [hdy] at hy; exact absurd hy (by decide)
    | inf t => rw [hdy] at hy; exact absurd hy (by simp [fp_fin])
    | fin t d r =>
      rw [hdy] at hy
      cases s with
      | true => exact absurd hx (by simp [fp_fin])
      | false =>
        cases t with
        | true => exact absurd hy (by simp [fp_fin])
        | false =>
          have hd : ¬ d = 0 := fun z => by subst z; exact absurd hy (by simp [fp_fin])
          simp only [FP.Core.quotient]
          rw [if_neg hd]
          unfold FP.Core.roundRatio
          split
          · decide
          · exact fp_settle _ _
theorem fp_h : ∀ a, a < 71 → ∀ b, b < 100 → fp_fin true (FP.Core.decode FP.Core.b64 (FP.i2d (nI (100 * a + b))).toNat) = true := by decide +kernel
theorem fp_v : ∀ a, a < 101 → ¬ a = 0 → fp_fin false (FP.Core.decode FP.Core.b64 (FP.i2d (nI a)).toNat) = true := by decide +kernel
theorem fp_32 : ∀ a, a < 7 → ∀ b, b < 7 → ¬ b = 0 → vf_n32 (FP.fdiv (FP.i2f (nI a)) (FP.i2f (nI b))) ∧ vf_n64 (FP.f2d (FP.fdiv (FP.i2f (nI a)) (FP.i2f (nI b)))) ∧ Op.cmpValue (FP.dcmp (FP.f2d (FP.fdiv (FP.i2f (nI a)) (FP.i2f (nI b)))) (FP.f2d (FP.fdiv (FP.i2f (nI a)) (FP.i2f (nI b))))) CmpOp.l = 0 := by
  unfold vf_n32 vf_n64
  decide +kernel
theorem ed_ok {v h : Nat → Int32} (H : WtA v h) {j : Nat} (hj : j < 5) (hw : wet v j = true) : vf_n64 (FP.ddiv (FP.i2d (h j)) (FP.i2d (v j))) := by
  obtain ⟨a, b, c, d⟩ := H j hj
  have w := ti_wet.mp hw
  obtain ⟨n, n1, n2⟩ := nI_of (show ¬ h j < 0 from fun z => by rw [Int32.lt_iff_toInt_lt, Int32.toInt_zero] at z; omega)
  obtain ⟨m, m1, m2⟩ := nI_of (show ¬ v j < 0 from fun z => by rw [Int32.lt_iff_toInt_lt, Int32.toInt_zero] at z; omega)
  rw [n2, m2]
  rw [n2, m2, nI_toInt n1, nI_toInt m1] at d
  rw [m2, nI_toInt m1] at w b
  refine fp_div ?_ (fp_v m (by omega) (by omega))
  have e : 100 * (n / 100) + n % 100 = n := Nat.div_add_mod n 100
  have := fp_h (n / 100) (by omega) (n % 100) (by omega)
  rwa [e] at this
theorem cntP_n (p : Nat → Bool) : ∀ k : Nat, ∃ c : Nat, c ≤ k ∧ cntP p k = nI c
  | 0 => ⟨0, Nat.le_refl _, rfl⟩
  | k + 1 => by
    obtain ⟨c, h1, h2⟩ := cntP_n p k
    simp only [cntP]
    split
    · exact ⟨c + 1, by omega, by rw [h2, nI_1]⟩
    · exact ⟨c, by omega, h2⟩
abbrev csh (σ : St) : UInt32 := FP.fdiv (FP.i2f (cntP (plS σ) (nD σ))) (FP.i2f (nI (nD σ)))
theorem cs_ok {σ : St} (ho : Ok σ) (h0 : ¬ nD σ = 0) : vf_n32 (csh σ) ∧ vf_n64 (FP.f2d (csh σ)) ∧ Op.cmpValue (FP.dcmp (FP.f2d (csh σ)) (FP.f2d (csh σ))) CmpOp.l = 0 := by
  obtain ⟨c, h1, h2⟩ := cntP_n (plS σ) (nD σ)
  have hM := ho.2.1
  show vf_n32 (FP.fdiv (FP.i2f (cntP (plS σ) (nD σ))) (FP.i2f (nI (nD σ)))) ∧ vf_n64 (FP.f2d (FP.fdiv (FP.i2f (cntP (plS σ) (nD σ))) (FP.i2f (nI (nD σ))))) ∧ Op.cmpValue (FP.dcmp (FP.f2d (FP.fdiv (FP.i2f (cntP (plS σ) (nD σ))) (FP.i2f (nI (nD σ))))) (FP.f2d (FP.fdiv (FP.i2f (cntP (plS σ) (nD σ))) (FP.i2f (nI (nD σ)))))) CmpOp.l = 0
  rw [h2]
  exact fp_32 c (by omega) (nD σ) (by omega) h0
section FY
variable {p : Program} {l : Launch} {e : Env} {R : Room} {s : State} {m : MethodId} {args : Array Value} {below : List Frame} {meth : Method} {c : Code} {H : Heap} {locs : List Loc} {cells slots : Nat} {Q : State → Prop}
variable {cc : ByteArray} {pc : Nat} {ls : Array Slot} {G : va_G}
theorem ro_dret (hx : p.tables.exec = Jvm.exec) (hb : c.code = cc) (hr : meth.sig.returnType = some .double) (hlocks : meth.locks = false) {v r : UInt64} (hv : v = r) (hdg : decode cc pc = .ok (.dreturn, 1)) : W p l e R s m args below meth c s.heap [] 0 0 (roZ below args s (some (.double r))) (F0 m pc ls [.double v]) := by
  subst hv
  exact W.dret hx hb hr (fun t ht _ => ⟨rfl, ht⟩) (fun q h => by cases h) hdg hlocks
theorem ro_fret (hx : p.tables.exec = Jvm.exec) (hb : c.code = cc) (hr : meth.sig.returnType = some .float) (hlocks : meth.locks = false) {v r : UInt32} (hv : v = r) (hdg : decode cc pc = .ok (.freturn, 1)) : W p l e R s m args below meth c s.heap [] 0 0 (roZ below args s (some (.float r))) (F0 m pc ls [.float v]) := by
  subst hv
  exact W.fret hx hb hr (fun t ht _ => ⟨rfl, ht⟩) (fun q h => by cases h) hdg hlocks
theorem wc_dret {w w' : va_W} (hx : p.tables.exec = Jvm.exec) (hb : c.code = cc) (hr : meth.sig.returnType = some .double) (hlocks : meth.locks = false) (hP : va_P G vwCl w' H) (hS : va_S (wA w) s.heap H locs) {v r : UInt64} (hv : v = r) (hdg : decode cc pc = .ok (.dreturn, 1)) : W p l e R s m args below meth c H locs 0 0 (wcZ below args s G w w' (some (.double r))) (F0 m pc ls [.double v]) := by
  subst hv
  exact W.dret hx hb hr (fun t ht _ => ⟨rfl, by rw [ht]; exact hP, hS.F ht⟩) hS.2.2 hdg hlocks
theorem wc_fret {w w' : va_W} (hx : p.tables.exec = Jvm.exec) (hb : c.code = cc) (hr : meth.sig.returnType = some .float) (hlocks : meth.locks = false) (hP : va_P G vwCl w' H) (hS : va_S (wA w) s.heap H locs) {v r : UInt32} (hv : v = r) (hdg : decode cc pc = .ok (.freturn, 1)) : W p l e R s m args below meth c H locs 0 0 (wcZ below args s G w w' (some (.float r))) (F0 m pc ls [.float v]) := by
  subst hv
  exact W.fret hx hb hr (fun t ht _ => ⟨rfl, by rw [ht]; exact hP, hS.F ht⟩) hS.2.2 hdg hlocks
end FY
set_option maxRecDepth 100000 in
set_option maxHeartbeats 1000000 in
theorem c_X7_exactTemperature (l : Launch) (G : va_G) (cy : Nat → ClassId) (aX : Nat) (na tr sn : Nat → Nat) (hs : Int32) (hi sc : Nat) (ep fc : Int32) (ob : Nat) (σ : St) (j : Nat) (ho : Ok σ) (hj : j < nB σ) (hwt : wet (vB σ) j = true) (hw : WtA (vB σ) (hB σ)) : RO l yX7_exactTemperature wsX7_exactTemperature { frames := 2, cells := 0, slots := 0, locals := 42 } (PB G cy [(aX, .inr (11, [.ref (na 0), .ref (tr 0), .ref (sn 0), .int hs, .ref hi, .ref sc, .int ep, .int fc, .ref ob])), (na 0, .inr (9, [.ref (na 1), .ref (na 2), .ref (na 3), .ref (na 4)])), (na 1, .inr (4, [.int (nI (nB σ)), .ref (na 5), .ref (na 6), .ref (na 7), .ref (na 8)])), (na 5, .inl (cy 2, 5, .inl (vB σ))), (na 6, .inl (cy 2, 5, .inl (hB σ))), (na 7, .inl (cy 3, 5, .inl (pB σ))), (na 8, .inl (cy 3, 5, .inl (mB σ))), (na 2, .inr (5, [.int (nI (nD σ)), .ref (na 9), .ref (na 10), .ref (na 11), .ref (na 12), .ref (na 13)])), (na 9, .inl (cy 2, 6, .inl (bD σ))), (na 10, .inl (cy 2, 6, .inl (lD σ))), (na 11, .inl (cy 2, 6, .inl (uD σ))), (na 12, .inl (cy 2, 6, .inl (qD σ))), (na 13, .inl (cy 3, 6, .inl (wD σ))), (na 3, .inr (6, [.int (nI (nE σ)), .ref (na 14), .ref (na 15), .ref (na 16)])), (na 14, .inl (cy 1, 10, .inl (kE σ))), (na 15, .inl (cy 2, 10, .inl (bE σ))), (na 16, .inl (cy 2, 10, .inl (lE σ))), (na 4, .inr (10, [.int (tT σ), .int (dT σ), .int (aT σ), .int (rT σ), .int (hT σ), .int (xT σ)]))]) [.ref aX, .int (nI j)] (some (.double (FP.ddiv (FP.i2d (hB σ j)) (FP.i2d (vB σ j))))) := by
  refine RO.ofW (cc := cX7_exactTemperature) (maxL := 2) (ret := (some .double)) (by decide) rfl (Nat.le_of_ble_eq_true rfl) ?_
  intro p e s m below meth c S9 hr hlocks hPB ls hl
  obtain ⟨hx, hb, hml, hown, hts⟩ := id S9
  obtain ⟨hP, hK⟩ := hPB
  have hl : lv_has ls 2 [(0, .ref aX), (1, .int (nI j))] := hl
  have hi4 : ∀ w ∈ wsX00, w ∈ wsX7_exactTemperature := by decide +kernel
  have hi9 : ∀ w ∈ wsX50, w ∈ wsX7_exactTemperature := by decide +kernel
  have hi11 : ∀ w ∈ wsX70, w ∈ wsX7_exactTemperature := by decide +kernel
  have hf12 := hts (.fieldLink RX7 12 "BathLeague" "now" "LBathLeague$State;") (by decide +kernel)
  have hf77 := hts (.fieldLink RX7 77 "BathLeague$State" "baths" "LBathLeague$Baths;") (by decide +kernel)
  have hf81 := hts (.fieldLink RX7 81 "BathLeague$Baths" "volume" "[I") (by decide +kernel)
  have hf147 := hts (.fieldLink RX7 147 "BathLeague$Baths" "heat" "[I") (by decide +kernel)
  have hN0 := ho.1
  have hM0 := ho.2.1
  have hE0 := ho.2.2.1
  refine lv_aload_n hx hb dX7_exactTemperature_0 rfl (lv_at hl 0 rfl) ?_
  refine lv_iload_n hx hb dX7_exactTemperature_1 rfl (lv_at hl 1 rfl) ?_
  refine c_roVv S9 (c_X7_requireBath l G cy aX na tr sn hs hi sc ep fc ob σ j ho hj) (cwV 1 hts gX7_exactTemperature_X7_requireBath rfl rfl rfl (by decide +kernel) ⟨Nat.le_of_ble_eq_true rfl, Nat.le_of_ble_eq_true rfl⟩) PB.blind (va_recv hK.1 hP (ci := 11) (q0 := 0) rfl rfl) (PB.at hK (m_Ppart hP [0, 1, 2, 3, 4, 5, 6, 7, 8, 9, 10, 11, 12, 13, 14, 15, 16, 17] rfl)) rfl hl.1 rfl (Nat.le_of_ble_eq_true rfl) ⟨Nat.zero_le _, Nat.zero_le _⟩ dX7_exactTemperature_2 ?_
  refine lv_aload_n hx hb dX7_exactTemperature_5 rfl (lv_at hl 0 rfl) ?_
  refine lv_iload_n hx hb dX7_exactTemperature_6 rfl (lv_at hl 1 rfl) ?_
  refine c_roVv S9 (c_X7_requireWater l G cy aX na tr sn hs hi sc ep fc ob σ j ho (by omega) hwt) (cwV 1 hts gX7_exactTemperature_X7_requireWater rfl rfl rfl (by decide +kernel) ⟨Nat.le_of_ble_eq_true rfl, Nat.le_of_ble_eq_true rfl⟩) PB.blind (va_recv hK.1 hP (ci := 11) (q0 := 0) rfl rfl) (PB.at hK (m_Ppart hP [0, 1, 2, 3, 4, 5, 6, 7, 8, 9, 10, 11, 12, 13, 14, 15, 16, 17] rfl)) rfl hl.1 rfl (Nat.le_of_ble_eq_true rfl) ⟨Nat.zero_le _, Nat.zero_le _⟩ dX7_exactTemperature_7 ?_
  refine lv_aload_n hx hb dX7_exactTemperature_10 rfl (lv_at hl 0 rfl) ?_
  refine va_get (D := G) (ci := 11) (v := .ref (na 0)) (C := RX7) (T := TX7) (N := 9) hx hb hts hi11 hown hK.1 hP 0 rfl rfl 0 (by decide) hf12 (fun _ h9 => h9) rfl dX7_exactTemperature_11 ?_
  refine va_get (D := G) (ci := 9) (v := .ref (na 1)) (C := RX5) (T := TX5) (N := 4) hx hb hts hi9 hown hK.1 hP 1 rfl rfl 0 (by decide) hf77 (fun _ h9 => h9) rfl dX7_exactTemperature_14 ?_
  refine va_get (D := G) (ci := 4) (v := .ref (na 6)) (C := RX0) (T := TX0) (N := 5) hx hb hts hi4 hown hK.1 hP 2 rfl rfl 2 (by decide) hf147 (fun _ h9 => h9) rfl dX7_exactTemperature_17 ?_
  refine lv_iload_n hx hb dX7_exactTemperature_20 rfl (lv_at hl 1 rfl) ?_
  refine m_iald hx hb hK hP 4 (k := j) rfl rfl (by omega) (Nat.le_of_ble_eq_true rfl) dX7_exactTemperature_21 ?_
  refine lv_i2d hx hb dX7_exactTemperature_22 ?_
  refine lv_aload_n hx hb dX7_exactTemperature_23 rfl (lv_at hl 0 rfl) ?_
  refine va_get (D := G) (ci := 11) (v := .ref (na 0)) (C := RX7) (T := TX7) (N := 9) hx hb hts hi11 hown hK.1 hP 0 rfl rfl 0 (by decide) hf12 (fun _ h9 => h9) rfl dX7_exactTemperature_24 ?_
  refine va_get (D := G) (ci := 9) (v := .ref (na 1)) (C := RX5) (T := TX5) (N := 4) hx hb hts hi9 hown hK.1 hP 1 rfl rfl 0 (by decide) hf77 (fun _ h9 => h9) rfl dX7_exactTemperature_27 ?_
  refine va_get (D := G) (ci := 4) (v := .ref (na 5)) (C := RX0) (T := TX0) (N := 5) hx hb hts hi4 hown hK.1 hP 2 rfl rfl 1 (by decide) hf81 (fun _ h9 => h9) rfl dX7_exactTemperature_30 ?_
  refine lv_iload_n hx hb dX7_exactTemperature_33 rfl (lv_at hl 1 rfl) ?_
  refine m_iald hx hb hK hP 3 (k := j) rfl rfl (by omega) (Nat.le_of_ble_eq_true rfl) dX7_exactTemperature_34 ?_
  refine lv_i2d hx hb dX7_exactTemperature_35 ?_
  refine lv_ddiv hx hb dX7_exactTemperature_36 (ed_ok hw (show j < 5 by omega) hwt) ?_
  exact ro_dret hx hb hr hlocks rfl dX7_exactTemperature_37

set_option maxRecDepth 100000 in
set_option maxHeartbeats 1000000 in
theorem c_X7_contentShare (l : Launch) (G : va_G) (cy : Nat → ClassId) (aX : Nat) (na tr sn : Nat → Nat) (hs : Int32) (hi sc : Nat) (ep fc : Int32) (ob : Nat) (σ : St) (ho : Ok σ) (h0 : ¬ nD σ = 0) : RO l yX7_contentShare wsX7_contentShare { frames := 3, cells := 0, slots := 0, locals := 68 } (PB G cy [(aX, .inr (11, [.ref (na 0), .ref (tr 0), .ref (sn 0), .int hs, .ref hi, .ref sc, .int ep, .int fc, .ref ob])), (na 0, .inr (9, [.ref (na 1), .ref (na 2), .ref (na 3), .ref (na 4)])), (na 1, .inr (4, [.int (nI (nB σ)), .ref (na 5), .ref (na 6), .ref (na 7), .ref (na 8)])), (na 5, .inl (cy 2, 5, .inl (vB σ))), (na 6, .inl (cy 2, 5, .inl (hB σ))), (na 7, .inl (cy 3, 5, .inl (pB σ))), (na 8, .inl (cy 3, 5, .inl (mB σ))), (na 2, .inr (5, [.int (nI (nD σ)), .ref (na 9), .ref (na 10), .ref (na 11), .ref (na 12), .ref (na 13)])), (na 9, .inl (cy 2, 6, .inl (bD σ))), (na 10, .inl (cy 2, 6, .inl (lD σ))), (na 11, .inl (cy 2, 6, .inl (uD σ))), (na 12, .inl (cy 2, 6, .inl (qD σ))), (na 13, .inl (cy 3, 6, .inl (wD σ))), (na 3, .inr (6, [.int (nI (nE σ)), .ref (na 14), .ref (na 15), .ref (na 16)])), (na 14, .inl (cy 1, 10, .inl (kE σ))), (na 15, .inl (cy 2, 10, .inl (bE σ))), (na 16, .inl (cy 2, 10, .inl (lE σ))), (na 4, .inr (10, [.int (tT σ), .int (dT σ), .int (aT σ), .int (rT σ), .int (hT σ), .int (xT σ)]))]) [.ref aX] (some (.float (csh σ))) := by
  refine RO.ofW (cc := cX7_contentShare) (maxL := 1) (ret := (some .float)) (by decide) rfl (Nat.le_of_ble_eq_true rfl) ?_
  intro p e s m below meth c S9 hr hlocks hPB ls hl
  obtain ⟨hx, hb, hml, hown, hts⟩ := id S9
  obtain ⟨hP, hK⟩ := hPB
  have hl : lv_has ls 1 [(0, .ref aX)] := hl
  have hi5 : ∀ w ∈ wsX10, w ∈ wsX7_contentShare := by decide +kernel
  have hi9 : ∀ w ∈ wsX50, w ∈ wsX7_contentShare := by decide +kernel
  have hi11 : ∀ w ∈ wsX70, w ∈ wsX7_contentShare := by decide +kernel
  have hf12 := hts (.fieldLink RX7 12 "BathLeague" "now" "LBathLeague$State;") (by decide +kernel)
  have hf77 := hts (.fieldLink RX7 77 "BathLeague$State" "baths" "LBathLeague$Baths;") (by decide +kernel)
  have hf232 := hts (.fieldLink RX7 232 "BathLeague$State" "ducks" "LBathLeague$Ducks;") (by decide +kernel)
  have hf236 := hts (.fieldLink RX7 236 "BathLeague$Ducks" "count" "I") (by decide +kernel)
  have hN0 := ho.1
  have hM0 := ho.2.1
  have hE0 := ho.2.2.1
  refine lv_aload_n hx hb dX7_contentShare_0 rfl (lv_at hl 0 rfl) ?_
  refine va_get (D := G) (ci := 11) (v := .ref (na 0)) (C := RX7) (T := TX7) (N := 9) hx hb hts hi11 hown hK.1 hP 0 rfl rfl 0 (by decide) hf12 (fun _ h9 => h9) rfl dX7_contentShare_1 ?_
  refine va_get (D := G) (ci := 9) (v := .ref (na 2)) (C := RX5) (T := TX5) (N := 4) hx hb hts hi9 hown hK.1 hP 1 rfl rfl 1 (by decide) hf232 (fun _ h9 => h9) rfl dX7_contentShare_4 ?_
  refine va_get (D := G) (ci := 5) (v := .int (nI (nD σ))) (C := RX1) (T := TX1) (N := 6) hx hb hts hi5 hown hK.1 hP 7 rfl rfl 0 (by decide) hf236 (fun _ h9 => h9) rfl dX7_contentShare_7 ?_
  refine lv_if_ne (tgt := 24) hx hb dX7_contentShare_10 (by decide) (fun c_1 => ?_) (fun c_1 => ?_)
  · have k_2 : ¬ (nD σ = 0) := fun z => c_1 ((m_eqN (a := nD σ) (b := 0) rfl rfl (by omega) (by omega)).mpr z)
    refine lv_aload_n hx hb dX7_contentShare_24 rfl (lv_at hl 0 rfl) ?_
    refine va_get (D := G) (ci := 11) (v := .ref (na 0)) (C := RX7) (T := TX7) (N := 9) hx hb hts hi11 hown hK.1 hP 0 rfl rfl 0 (by decide) hf12 (fun _ h9 => h9) rfl dX7_contentShare_25 ?_
    refine va_get (D := G) (ci := 9) (v := .ref (na 2)) (C := RX5) (T := TX5) (N := 4) hx hb hts hi9 hown hK.1 hP 1 rfl rfl 1 (by decide) hf232 (fun _ h9 => h9) rfl dX7_contentShare_28 ?_
    refine lv_aload_n hx hb dX7_contentShare_31 rfl (lv_at hl 0 rfl) ?_
    refine va_get (D := G) (ci := 11) (v := .ref (na 0)) (C := RX7) (T := TX7) (N := 9) hx hb hts hi11 hown hK.1 hP 0 rfl rfl 0 (by decide) hf12 (fun _ h9 => h9) rfl dX7_contentShare_32 ?_
    refine va_get (D := G) (ci := 9) (v := .ref (na 1)) (C := RX5) (T := TX5) (N := 4) hx hb hts hi9 hown hK.1 hP 1 rfl rfl 0 (by decide) hf77 (fun _ h9 => h9) rfl dX7_contentShare_35 ?_
    refine c_roVi S9 (c_X1_pleasedCount l G cy (na 2) (na 9) (na 10) (na 11) (na 12) (na 13) (nD σ) (bD σ) (lD σ) (uD σ) (qD σ) (wD σ) (na 1) (na 5) (na 6) (na 7) (na 8) (nB σ) (vB σ) (hB σ) (pB σ) (mB σ) ho.2.1 ho.d) (cwV 1 hts gX7_contentShare_X1_pleasedCount rfl rfl rfl (by decide +kernel) ⟨Nat.le_of_ble_eq_true rfl, Nat.le_of_ble_eq_true rfl⟩) PB.blind (va_recv hK.1 hP (ci := 5) (q0 := 7) rfl rfl) (PB.at hK (m_Ppart hP [7, 8, 9, 10, 11, 12, 2, 3, 4, 5, 6] rfl)) rfl hl.1 rfl (Nat.le_of_ble_eq_true rfl) ⟨Nat.zero_le _, Nat.zero_le _⟩ dX7_contentShare_38 ?_
    refine lv_i2f hx hb dX7_contentShare_41 ?_
    refine lv_aload_n hx hb dX7_contentShare_42 rfl (lv_at hl 0 rfl) ?_
    refine va_get (D := G) (ci := 11) (v := .ref (na 0)) (C := RX7) (T := TX7) (N := 9) hx hb hts hi11 hown hK.1 hP 0 rfl rfl 0 (by decide) hf12 (fun _ h9 => h9) rfl dX7_contentShare_43 ?_
    refine va_get (D := G) (ci := 9) (v := .ref (na 2)) (C := RX5) (T := TX5) (N := 4) hx hb hts hi9 hown hK.1 hP 1 rfl rfl 1 (by decide) hf232 (fun _ h9 => h9) rfl dX7_contentShare_46 ?_
    refine va_get (D := G) (ci := 5) (v := .int (nI (nD σ))) (C := RX1) (T := TX1) (N := 6) hx hb hts hi5 hown hK.1 hP 7 rfl rfl 0 (by decide) hf236 (fun _ h9 => h9) rfl dX7_contentShare_49 ?_
    refine lv_i2f hx hb dX7_contentShare_52 ?_
    refine lv_fdiv hx hb dX7_contentShare_53 (cs_ok ho h0).1 ?_
    exact ro_fret hx hb hr hlocks rfl dX7_contentShare_54
  · exact absurd ((nI_eq (a := nD σ) (b := 0) (by omega) (by omega)).mp c_1) h0
