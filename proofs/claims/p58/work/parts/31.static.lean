/-! the static table of the taps' degrees -/
def tapV : Nat → Value := fun j => .int (nI (10 + 30 * j))
def TZ (A : Nat → Prop) (U : State) : Prop := ∃ t, va_Z "BathLeague" "TAP_DEGREES" "[I" (.ref t) A U U.heap ∧ va_T .int t 3 tapV A U U.heap
def PT (G : va_G) (cy : Nat → ClassId) (w : va_W) : State → Prop := fun U => PB G cy w U ∧ TZ (wA w) U
theorem PT.blind {G : va_G} {cy : Nat → ClassId} {w : va_W} : ∀ (U : State) (g : JFrame) (mk : MethodId) (a : Array Value), PT G cy w U → PT G cy w (U.calling g mk a) := by
  rintro U g mk a ⟨h, t, z, u⟩
  exact ⟨PB.blind U g mk a h, t, va_Z.moved (u := U) (U := U.calling g mk a) (Vm.Alike.refl U.vm) z, va_T.moved (u := U) (U := U.calling g mk a) (Vm.Alike.refl U.vm) u⟩
theorem TZ.at {A B : Nat → Prop} {s : State} {H : Heap} {locs : List Loc} (hT : TZ A s) (hS : va_S A s.heap H locs) (hB : ∀ q, B q → A q) : ∀ U : State, U.heap = H → s.WarmedH U.vm → TZ B U := by
  intro U hU hW
  obtain ⟨t, z, u⟩ := hT
  refine ⟨t, ?_, ?_⟩
  · rw [hU]
    exact ((z.kept hS.2.1).narrow hB).moved hW.alike
  · rw [hU]
    exact ((u.kept hS.2.1).narrow hB).moved hW.alike
theorem PT.at {G : va_G} {cy : Nat → ClassId} {A : Nat → Prop} {w : va_W} {s : State} {H : Heap} {locs : List Loc} (hT : TZ A s) (hS : va_S A s.heap H locs) (hB : ∀ q, wA w q → A q) (hK : KK G cy s) (hP : va_P G vwCl w H) : ∀ U : State, U.heap = H → s.WarmedH U.vm → PT G cy w U := fun U hU hW => ⟨PB.at hK hP U hU hW, hT.at hS hB U hU hW⟩
theorem tap_ix {t : Int32} (h : tapB t = true) : ∃ j, j < 3 ∧ t = nI j := by
  have h2 := inR_iff.mp h
  obtain ⟨j, h3, h4⟩ := nI_of h2.1
  refine ⟨j, ?_, h4⟩
  have h5 := h2.2
  rw [h4, Int32.lt_iff_toInt_lt, nI_toInt h3, show (2 : Int32).toInt = 2 from by decide] at h5
  omega
theorem tap_in {t : Int32} (h : tapB t = true) : vp_in t 3 := by
  obtain ⟨j, h1, h2⟩ := tap_ix h
  subst h2
  have e : (nI j).toNatClampNeg = j := nI_clamp (by omega)
  intro z
  rcases z with z | z
  · rw [Int32.lt_iff_toInt_lt, nI_toInt (by omega), Int32.toInt_zero] at z
    omega
  · rw [e] at z
    omega
theorem tap_v {t : Int32} (h : tapB t = true) : tapV t.toNatClampNeg = .int (10 + 30 * t) := by
  obtain ⟨j, h1, h2⟩ := tap_ix h
  subst h2
  have e : (nI j).toNatClampNeg = j := nI_clamp (by omega)
  rw [e]
  have k : ∀ j : Nat, j < 3 → nI (10 + 30 * j) = 10 + 30 * nI j := by decide
  unfold tapV
  rw [k j h1]
theorem wA_nil (q : Nat) : ¬ wA [] q := by
  rintro ⟨k, e, h⟩
  simp at h
