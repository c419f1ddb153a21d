/-! the law's state: the class's and the reference's, side by side -/
abbrev LA : Type := Nat × Nat × Nat × Nat × Nat × Nat × Nat × Nat × Nat × Nat × Nat × Nat × Nat × Nat × Nat × Nat × Nat × Nat × Nat × Nat × Nat × Nat × (Nat → Nat) × (Nat → Nat) × (Nat → Nat) × (Nat → Nat → Nat)
abbrev LA.aX (s : LA) : Nat := s.1
abbrev LA.hi (s : LA) : Nat := s.2.1
abbrev LA.sc (s : LA) : Nat := s.2.2.1
abbrev LA.ob (s : LA) : Nat := s.2.2.2.1
abbrev LA.hA (s : LA) : Nat := s.2.2.2.2.1
abbrev LA.tx (s : LA) : Nat := s.2.2.2.2.2.1
abbrev LA.kd (s : LA) : Nat := s.2.2.2.2.2.2.1
abbrev LA.fs (s : LA) : Nat := s.2.2.2.2.2.2.2.1
abbrev LA.sd (s : LA) : Nat := s.2.2.2.2.2.2.2.2.1
abbrev LA.td (s : LA) : Nat := s.2.2.2.2.2.2.2.2.2.1
abbrev LA.vb (s : LA) : Nat := s.2.2.2.2.2.2.2.2.2.2.1
abbrev LA.am (s : LA) : Nat := s.2.2.2.2.2.2.2.2.2.2.2.1
abbrev LA.aS (s : LA) : Nat := s.2.2.2.2.2.2.2.2.2.2.2.2.1
abbrev LA.aBf (s : LA) : Nat := s.2.2.2.2.2.2.2.2.2.2.2.2.2.1
abbrev LA.aAs (s : LA) : Nat := s.2.2.2.2.2.2.2.2.2.2.2.2.2.2.1
abbrev LA.aSv (s : LA) : Nat := s.2.2.2.2.2.2.2.2.2.2.2.2.2.2.2.1
abbrev LA.aPa (s : LA) : Nat := s.2.2.2.2.2.2.2.2.2.2.2.2.2.2.2.2.1
abbrev LA.aOu (s : LA) : Nat := s.2.2.2.2.2.2.2.2.2.2.2.2.2.2.2.2.2.1
abbrev LA.aTx (s : LA) : Nat := s.2.2.2.2.2.2.2.2.2.2.2.2.2.2.2.2.2.2.1
abbrev LA.aCo (s : LA) : Nat := s.2.2.2.2.2.2.2.2.2.2.2.2.2.2.2.2.2.2.2.1
abbrev LA.oA (s : LA) : Nat := s.2.2.2.2.2.2.2.2.2.2.2.2.2.2.2.2.2.2.2.2.1
abbrev LA.oD (s : LA) : Nat := s.2.2.2.2.2.2.2.2.2.2.2.2.2.2.2.2.2.2.2.2.2.1
abbrev LA.na (s : LA) : Nat → Nat := s.2.2.2.2.2.2.2.2.2.2.2.2.2.2.2.2.2.2.2.2.2.2.1
abbrev LA.tr (s : LA) : Nat → Nat := s.2.2.2.2.2.2.2.2.2.2.2.2.2.2.2.2.2.2.2.2.2.2.2.1
abbrev LA.sn (s : LA) : Nat → Nat := s.2.2.2.2.2.2.2.2.2.2.2.2.2.2.2.2.2.2.2.2.2.2.2.2.1
abbrev LA.ra (s : LA) : Nat → Nat → Nat := s.2.2.2.2.2.2.2.2.2.2.2.2.2.2.2.2.2.2.2.2.2.2.2.2.2
abbrev LwS : Type := St × St × St × Int32 × Int32 × Int32 × Int32 × Int32 × Nat × Nat × Nat × Nat × Nat × Nat × (Nat → St) × Lx × Lx × (Nat → Int32) × (Nat → Int32) × (Nat → Int32) × (Nat → Int32) × (Nat → Int32) × (Nat → Int32) × (Nat → Int32) × (Nat → Int32) × (Nat → Int32) × (Nat → Int32) × (Nat → Int32) × (Nat → Int32) × (Nat → Int64) × (Nat → UInt64)
abbrev LwS.σ (s : LwS) : St := s.1
abbrev LwS.υ (s : LwS) : St := s.2.1
abbrev LwS.ς (s : LwS) : St := s.2.2.1
abbrev LwS.hs (s : LwS) : Int32 := s.2.2.2.1
abbrev LwS.ep (s : LwS) : Int32 := s.2.2.2.2.1
abbrev LwS.fc (s : LwS) : Int32 := s.2.2.2.2.2.1
abbrev LwS.ml (s : LwS) : Int32 := s.2.2.2.2.2.2.1
abbrev LwS.th (s : LwS) : Int32 := s.2.2.2.2.2.2.2.1
abbrev LwS.nx (s : LwS) : Nat := s.2.2.2.2.2.2.2.2.1
abbrev LwS.ct (s : LwS) : Nat := s.2.2.2.2.2.2.2.2.2.1
abbrev LwS.nb (s : LwS) : Nat := s.2.2.2.2.2.2.2.2.2.2.1
abbrev LwS.n (s : LwS) : Nat := s.2.2.2.2.2.2.2.2.2.2.2.1
abbrev LwS.LN (s : LwS) : Nat := s.2.2.2.2.2.2.2.2.2.2.2.2.1
abbrev LwS.CM (s : LwS) : Nat := s.2.2.2.2.2.2.2.2.2.2.2.2.2.1
abbrev LwS.ρ (s : LwS) : Nat → St := s.2.2.2.2.2.2.2.2.2.2.2.2.2.2.1
abbrev LwS.x (s : LwS) : Lx := s.2.2.2.2.2.2.2.2.2.2.2.2.2.2.2.1
abbrev LwS.x0 (s : LwS) : Lx := s.2.2.2.2.2.2.2.2.2.2.2.2.2.2.2.2.1
abbrev LwS.f (s : LwS) : Nat → Int32 := s.2.2.2.2.2.2.2.2.2.2.2.2.2.2.2.2.2.1
abbrev LwS.gk (s : LwS) : Nat → Int32 := s.2.2.2.2.2.2.2.2.2.2.2.2.2.2.2.2.2.2.1
abbrev LwS.g1 (s : LwS) : Nat → Int32 := s.2.2.2.2.2.2.2.2.2.2.2.2.2.2.2.2.2.2.2.1
abbrev LwS.g2 (s : LwS) : Nat → Int32 := s.2.2.2.2.2.2.2.2.2.2.2.2.2.2.2.2.2.2.2.2.1
abbrev LwS.g3 (s : LwS) : Nat → Int32 := s.2.2.2.2.2.2.2.2.2.2.2.2.2.2.2.2.2.2.2.2.2.1
abbrev LwS.fb (s : LwS) : Nat → Int32 := s.2.2.2.2.2.2.2.2.2.2.2.2.2.2.2.2.2.2.2.2.2.2.1
abbrev LwS.fB (s : LwS) : Nat → Int32 := s.2.2.2.2.2.2.2.2.2.2.2.2.2.2.2.2.2.2.2.2.2.2.2.1
abbrev LwS.fA (s : LwS) : Nat → Int32 := s.2.2.2.2.2.2.2.2.2.2.2.2.2.2.2.2.2.2.2.2.2.2.2.2.1
abbrev LwS.fV (s : LwS) : Nat → Int32 := s.2.2.2.2.2.2.2.2.2.2.2.2.2.2.2.2.2.2.2.2.2.2.2.2.2.1
abbrev LwS.fP (s : LwS) : Nat → Int32 := s.2.2.2.2.2.2.2.2.2.2.2.2.2.2.2.2.2.2.2.2.2.2.2.2.2.2.1
abbrev LwS.fO (s : LwS) : Nat → Int32 := s.2.2.2.2.2.2.2.2.2.2.2.2.2.2.2.2.2.2.2.2.2.2.2.2.2.2.2.1
abbrev LwS.g (s : LwS) : Nat → Int32 := s.2.2.2.2.2.2.2.2.2.2.2.2.2.2.2.2.2.2.2.2.2.2.2.2.2.2.2.2.1
abbrev LwS.fo (s : LwS) : Nat → Int64 := s.2.2.2.2.2.2.2.2.2.2.2.2.2.2.2.2.2.2.2.2.2.2.2.2.2.2.2.2.2.1
abbrev LwS.fd (s : LwS) : Nat → UInt64 := s.2.2.2.2.2.2.2.2.2.2.2.2.2.2.2.2.2.2.2.2.2.2.2.2.2.2.2.2.2.2
abbrev LwS.mk (σ : St) (υ : St) (ς : St) (hs : Int32) (ep : Int32) (fc : Int32) (ml : Int32) (th : Int32) (nx : Nat) (ct : Nat) (nb : Nat) (n : Nat) (LN : Nat) (CM : Nat) (ρ : Nat → St) (x : Lx) (x0 : Lx) (f : Nat → Int32) (gk : Nat → Int32) (g1 : Nat → Int32) (g2 : Nat → Int32) (g3 : Nat → Int32) (fb : Nat → Int32) (fB : Nat → Int32) (fA : Nat → Int32) (fV : Nat → Int32) (fP : Nat → Int32) (fO : Nat → Int32) (g : Nat → Int32) (fo : Nat → Int64) (fd : Nat → UInt64) : LwS := (σ, υ, ς, hs, ep, fc, ml, th, nx, ct, nb, n, LN, CM, ρ, x, x0, f, gk, g1, g2, g3, fb, fB, fA, fV, fP, fO, g, fo, fd)
def PastOK (nx ct : Nat) (ρ : Nat → St) (fP : Nat → Int32) : Prop := ∀ k, k < ct → ∀ j, j < 89 → fP (89 * k + j) = encS (ρ ((nx + 8 - ct + k) % 8)) j
theorem past_push {nx ct : Nat} {ρ : Nat → St} {fP : Nat → Int32} {σ : St} (hnx : nx < 8) (hct : ct ≤ 8) (h : PastOK nx ct ρ fP) : PastOK ((nx + 1) % 8) (kInc ct) (updR ρ nx σ) (pastP ct fP (encS σ)) := by
  intro k hk j hj
  unfold kInc at hk ⊢
  unfold pastP
  by_cases e : ct = 8
  · subst e
    rw [if_pos rfl] at hk ⊢
    rw [if_pos rfl]
    by_cases k7 : k = 7
    · subst k7
      have e1 : ((nx + 1) % 8 + 8 - 8 + 7) % 8 = nx := by omega
      rw [e1]
      unfold va_cpy updR
      rw [if_pos (by omega), if_pos rfl]
      exact congrArg (encS σ) (by omega)
    · have e1 : ¬ ((nx + 1) % 8 + 8 - 8 + k) % 8 = nx := by omega
      have e2 := h (k + 1) (by omega) j hj
      rw [show (nx + 8 - 8 + (k + 1)) % 8 = ((nx + 1) % 8 + 8 - 8 + k) % 8 by omega] at e2
      unfold updR
      rw [if_neg e1, ← e2]
      unfold va_cpy
      rw [if_neg (by omega), if_pos (by omega)]
      exact congrArg fP (by omega)
  · rw [if_neg e] at hk ⊢
    rw [if_neg e]
    by_cases k7 : k = ct
    · subst k7
      have e1 : ((nx + 1) % 8 + 8 - (k + 1) + k) % 8 = nx := by omega
      rw [e1]
      unfold va_cpy updR
      rw [if_pos (by omega), if_pos rfl]
      exact congrArg (encS σ) (by omega)
    · have e1 : ¬ ((nx + 1) % 8 + 8 - (ct + 1) + k) % 8 = nx := by omega
      have e2 := h k (by omega) j hj
      rw [show (nx + 8 - ct + k) % 8 = ((nx + 1) % 8 + 8 - (ct + 1) + k) % 8 by omega] at e2
      unfold updR
      rw [if_neg e1, ← e2]
      unfold va_cpy
      rw [if_neg (by omega)]
/-- what is written -/
def ChrOK (c : Int32) : Prop := ((c &&& 255).toUInt32 % 65536).toInt32 = c ∧ vp_nar .char c = c
def LI (n0 : Nat) (s : LwS) : Prop :=
  Inv n0 s.σ ∧ Inv n0 s.ς ∧ (∀ k, k < 8 → Inv n0 (s.ρ k)) ∧ (s.hs = 0 ∨ s.hs = 1 ∧ s.fV = encS s.ς) ∧ s.nx < 8 ∧ s.ct ≤ 8 ∧ PastOK s.nx s.ct s.ρ s.fP ∧ (s.ep = -1 ∨ ∃ k, k < 1000 ∧ s.ep = nI k) ∧ (s.fc = -1 ∨ ∃ k, k < 1000 ∧ s.fc = nI k) ∧ s.LN ≤ 60 ∧ czN 60 s.f ∧ (∀ j, j < s.LN → sgOK (s.f j)) ∧ s.nb ≤ 16 ∧ ∀ j, j < s.nb → s.fO j = s.fb j ∧ ChrOK (s.fb j)
theorem LI.mono {n m : Nat} {s : LwS} (h : LI n s) (hm : n ≤ m) : LI m s := by
  obtain ⟨a, b, c, d⟩ := h
  exact ⟨a.mono hm, b.mono hm, fun k hk => (c k hk).mono hm, d⟩
theorem LI.push {n : Nat} {s : LwS} {σ' : St} (h : LI n s) (hσ : Inv (n + 300) σ') : LI (n + 300) (LwS.mk σ' s.υ s.ς s.hs s.ep s.fc s.ml s.th ((s.nx + 1) % 8) (kInc s.ct) s.nb s.n s.LN s.CM (updR s.ρ s.nx s.σ) s.x s.x0 s.f s.gk s.g1 s.g2 s.g3 s.fb s.fB s.fA s.fV (pastP s.ct s.fP (encS s.σ)) s.fO s.g s.fo s.fd) := by
  obtain ⟨a, b, c, d, e, f, g, h⟩ := h
  refine ⟨hσ, b.mono (by omega), fun k hk => ?_, d, Nat.mod_lt _ (by decide), ?_, past_push e f g, h⟩
  · show Inv _ (updR s.ρ s.nx s.σ k)
    unfold updR
    split
    · exact a.mono (by omega)
    · exact (c k hk).mono (by omega)
  · show kInc s.ct ≤ 8
    unfold kInc
    split <;> omega
def LCh (cy : Nat → ClassId) (a : LA) (s t : LwS) : List va_W := [[(a.aX, .inr (11, [.ref (a.na 0), .ref (a.tr 0), .ref (a.sn 0), .int s.hs, .ref a.hi, .ref a.sc, .int s.ep, .int s.fc, .ref a.ob]))], sWd cy a.na s.σ, sWd cy a.tr s.υ, sWd cy a.sn s.ς, [(a.hi, .inr (7, [.ref a.hA, .int (nI s.nx), .int (nI s.ct)]))], [(a.hA, .inl (cy 4, 8, .inr (.inr (.inr (.inr (fun k => some (a.ra k 0)))))))], ringW cy a.ra s.ρ,
  [(a.sc, .inr (8, [.ref a.tx, .int (nI s.LN), .int (nI s.x.1), .int (bI s.x.2), .int (nI s.n), .ref a.kd, .ref a.fs, .ref a.sd, .ref a.td]))], [(a.tx, .inl (cy 1, 60, .inl s.f))], [(a.kd, .inl (cy 2, 13, .inl s.gk))], [(a.fs, .inl (cy 2, 13, .inl s.g1))], [(a.sd, .inl (cy 2, 13, .inl s.g2))], [(a.td, .inl (cy 2, 13, .inl s.g3))], [(a.ob, .inr (1, [.ref a.vb, .int 0, .int s.ml, .int (nI s.nb)]))], [(a.vb, .inl (cy 0, 16, .inl s.fb))],
  [(a.am, .inr (12, [.ref a.aS, .ref a.aBf, .ref a.aAs, .ref a.aSv, .int t.hs, .ref a.aPa, .int (nI t.ct), .int t.th, .ref a.aOu, .int (nI t.nb), .ref a.aTx, .int (nI t.LN), .int (nI t.x0.1), .int (bI t.x0.2), .int t.ep, .int t.fc, .ref a.aCo, .int (nI t.CM)]))], [(a.aS, .inl (cy 2, 89, .inl (encS t.σ)))], [(a.aBf, .inl (cy 2, 89, .inl t.fB))], [(a.aAs, .inl (cy 2, 89, .inl t.fA))], [(a.aSv, .inl (cy 2, 89, .inl t.fV))], [(a.aPa, .inl (cy 2, 712, .inl t.fP))], [(a.aOu, .inl (cy 1, 20, .inl t.fO))], [(a.aTx, .inl (cy 1, 60, .inl t.f))], [(a.aCo, .inl (cy 2, 240, .inl t.g))], [(a.oA, .inl (cy 5, 1, .inr (.inl s.fo)))], [(a.oD, .inl (cy 6, 1, .inr (.inr (.inr (.inl s.fd)))))]]
/-- what stays while the law runs -/
def LC (l : Launch) (p : Program) (s : State) (m : MethodId) (meth : Method) (c : Code) (G : va_G) (cy : Nat → ClassId) (kS vS : Nat → Nat) (A : Nat → Prop) (b L : Nat) (xs : Nat → Int32) : Prop := (CallFix p m c code 9 s #[.ref b] wsL_law RL) ∧ (l.stackTraces = false) ∧ (KK G cy s) ∧ (TZ A s) ∧ (XS A s) ∧ (SK kS vS A s) ∧ (DZ A s) ∧ (va_X b L xs s s.heap) ∧ (b < s.heap.size) ∧ (¬ A b) ∧ (L ≤ 2048)
theorem LC.S9 {l : Launch} {p : Program} {s : State} {m : MethodId} {meth : Method} {c : Code} {G : va_G} {cy : Nat → ClassId} {kS vS : Nat → Nat} {A : Nat → Prop} {b L : Nat} {xs : Nat → Int32} (h : LC l p s m meth c G cy kS vS A b L xs) : CallFix p m c code 9 s #[.ref b] wsL_law RL := h.1
theorem LC.hl9 {l : Launch} {p : Program} {s : State} {m : MethodId} {meth : Method} {c : Code} {G : va_G} {cy : Nat → ClassId} {kS vS : Nat → Nat} {A : Nat → Prop} {b L : Nat} {xs : Nat → Int32} (h : LC l p s m meth c G cy kS vS A b L xs) : l.stackTraces = false := h.2.1
theorem LC.hK {l : Launch} {p : Program} {s : State} {m : MethodId} {meth : Method} {c : Code} {G : va_G} {cy : Nat → ClassId} {kS vS : Nat → Nat} {A : Nat → Prop} {b L : Nat} {xs : Nat → Int32} (h : LC l p s m meth c G cy kS vS A b L xs) : KK G cy s := h.2.2.1
theorem LC.hTZ {l : Launch} {p : Program} {s : State} {m : MethodId} {meth : Method} {c : Code} {G : va_G} {cy : Nat → ClassId} {kS vS : Nat → Nat} {A : Nat → Prop} {b L : Nat} {xs : Nat → Int32} (h : LC l p s m meth c G cy kS vS A b L xs) : TZ A s := h.2.2.2.1
theorem LC.hXS {l : Launch} {p : Program} {s : State} {m : MethodId} {meth : Method} {c : Code} {G : va_G} {cy : Nat → ClassId} {kS vS : Nat → Nat} {A : Nat → Prop} {b L : Nat} {xs : Nat → Int32} (h : LC l p s m meth c G cy kS vS A b L xs) : XS A s := h.2.2.2.2.1
theorem LC.hSK {l : Launch} {p : Program} {s : State} {m : MethodId} {meth : Method} {c : Code} {G : va_G} {cy : Nat → ClassId} {kS vS : Nat → Nat} {A : Nat → Prop} {b L : Nat} {xs : Nat → Int32} (h : LC l p s m meth c G cy kS vS A b L xs) : SK kS vS A s := h.2.2.2.2.2.1
theorem LC.hDZ {l : Launch} {p : Program} {s : State} {m : MethodId} {meth : Method} {c : Code} {G : va_G} {cy : Nat → ClassId} {kS vS : Nat → Nat} {A : Nat → Prop} {b L : Nat} {xs : Nat → Int32} (h : LC l p s m meth c G cy kS vS A b L xs) : DZ A s := h.2.2.2.2.2.2.1
theorem LC.hX {l : Launch} {p : Program} {s : State} {m : MethodId} {meth : Method} {c : Code} {G : va_G} {cy : Nat → ClassId} {kS vS : Nat → Nat} {A : Nat → Prop} {b L : Nat} {xs : Nat → Int32} (h : LC l p s m meth c G cy kS vS A b L xs) : va_X b L xs s s.heap := h.2.2.2.2.2.2.2.1
theorem LC.hbl {l : Launch} {p : Program} {s : State} {m : MethodId} {meth : Method} {c : Code} {G : va_G} {cy : Nat → ClassId} {kS vS : Nat → Nat} {A : Nat → Prop} {b L : Nat} {xs : Nat → Int32} (h : LC l p s m meth c G cy kS vS A b L xs) : b < s.heap.size := h.2.2.2.2.2.2.2.2.1
theorem LC.hbA {l : Launch} {p : Program} {s : State} {m : MethodId} {meth : Method} {c : Code} {G : va_G} {cy : Nat → ClassId} {kS vS : Nat → Nat} {A : Nat → Prop} {b L : Nat} {xs : Nat → Int32} (h : LC l p s m meth c G cy kS vS A b L xs) : ¬ A b := h.2.2.2.2.2.2.2.2.2.1
theorem LC.hL {l : Launch} {p : Program} {s : State} {m : MethodId} {meth : Method} {c : Code} {G : va_G} {cy : Nat → ClassId} {kS vS : Nat → Nat} {A : Nat → Prop} {b L : Nat} {xs : Nat → Int32} (h : LC l p s m meth c G cy kS vS A b L xs) : L ≤ 2048 := h.2.2.2.2.2.2.2.2.2.2
/-- from every state of the law at pc it goes on well -/
def LGo (p : Program) (l : Launch) (e : Env) (s : State) (m : MethodId) (below : List Frame) (meth : Method) (c : Code) (G : va_G) (cy : Nat → ClassId) (A : Nat → Prop) (a : LA) (b q : Nat) (Q : State → Prop) (n0 cells slots pc : Nat) : Prop :=
  ∀ (s9 : LwS) (H : Heap) (locs : List Loc) (ls : Array Slot), LI n0 s9 → va_P G vwCl (fl (LCh cy a s9 s9)) H → va_D A (fl (LCh cy a s9 s9)) → va_S A s.heap H locs → lv_has ls 9 [(5, .int (nI (4 * q))), (4, .ref a.oD), (3, .ref a.oA), (2, .ref a.am), (1, .ref a.aX), (0, .ref b)] → W p l e room_1 s m #[Value.ref b] below meth c H locs cells slots Q (F0 m pc ls [])
section LR
variable {p : Program} {l : Launch} {e : Env} {R : Room} {s : State} {m : MethodId} {args : Array Value} {below : List Frame} {meth : Method} {c : Code} {H H0 : Heap} {locs : List Loc} {cells slots : Nat} {Q : State → Prop}
variable {cc : ByteArray} {pc : Nat} {ls : Array Slot} {rest st0 : List Value} {G : va_G} {cy : Nat → ClassId} {A : Nat → Prop} {ws : va_W} {a : Nat}
theorem m_lald (hx : p.tables.exec = Jvm.exec) (hb : c.code = cc) (hK : KK G cy s) (hP : va_P G vwCl ws H) (q0 : Nat) {x : Int64} (ha : ws[q0]? = some (a, .inl (cy 5, 1, .inr (.inl (fun _ => x))))) (hdg : decode cc pc = .ok (.laload, 1))
    (kk : W p l e R s m args below meth c H locs cells slots Q (F0 m (pc + 1) ls (.long x :: rest))) : W p l e R s m args below meth c H locs cells slots Q (F0 m pc ls (.int 0 :: .ref a :: rest)) := va_lald hx hb hK.1 hP q0 5 ha rfl in01 hdg kk
theorem m_dald (hx : p.tables.exec = Jvm.exec) (hb : c.code = cc) (hK : KK G cy s) (hP : va_P G vwCl ws H) (q0 : Nat) {x : UInt64} (ha : ws[q0]? = some (a, .inl (cy 6, 1, .inr (.inr (.inr (.inl (fun _ => x))))))) (hdg : decode cc pc = .ok (.daload, 1))
    (kk : W p l e R s m args below meth c H locs cells slots Q (F0 m (pc + 1) ls (.double x :: rest))) : W p l e R s m args below meth c H locs cells slots Q (F0 m pc ls (.int 0 :: .ref a :: rest)) := va_dald hx hb hK.1 hP q0 6 ha rfl in01 hdg kk
theorem m_lcmp0 {x y : Int64} (hx : p.tables.exec = Jvm.exec) (hb : c.code = cc) (h : x = y) (hdg : decode cc pc = .ok (.lcmp, 1))
    (kk : W p l e R s m args below meth c H locs cells slots Q (F0 m (pc + 1) ls (.int 0 :: rest))) : W p l e R s m args below meth c H locs cells slots Q (F0 m pc ls (.long y :: .long x :: rest)) := by
  subst h
  refine W.lcmp hx hb hdg ?_
  rw [show lg_cmp x x = 0 from (lg_cmp_eq x x).mpr rfl]
  exact kk
/-- a method of the reference whose end's world has parts that only it knows -/
theorem c_weVi {T9 : Type} {y : MethodName} {bytes : ByteArray} {maxL nL n index : Nat} {ret : Option FieldType} {wy : List Cond} {rm : Room} {P : State → Prop} {Ts : List Cond} {own C : String} {b : Addr} {As : List Value} {r9 : Int32} {wc : va_W} {w1 ws' : T9 → va_W} (S : CallFix p m c cc nL s args Ts own) (hM : WE l y wy rm G P (.ref b :: As) wc w1 (some (.int r9))) (cw : CallW R s args own C index y bytes maxL ret wy rm 0 0 n) (hbl : ∀ (U : State) (g : JFrame) (mk : MethodId) (a : Array Value), P U → P (U.calling g mk a)) (hrc : ∃ cellB : Cell, H[b]? = some cellB ∧ cellB.vm.isStatics = false ∧ s.vm.findClass C = some cellB.cls) (hat : ∀ U : State, U.heap = H → s.WarmedH U.vm → P U)
    (hP : va_P G vwCl ws H) (hD : va_D A ws) (hS : va_S A H0 H locs) (is : List Nat) (hC : is.map (fun i => ws[i]?) = wc.map some) (hnd : va_nd is = true) (h1 : ∀ u, (w1 u).map Prod.fst = wc.map Prod.fst) (hw : ∀ u, wsets ws is (w1 u) = ws' u)
    (hn : As.length = n) (hsize : ls.size = nL) (hstack : st0 = As.reverse ++ .ref b :: rest) (hW : (rest.map fun v => v.category).sum ≤ 8) (hf : cells ≤ R.cells ∧ slots ≤ R.slots) (hdg : decode cc pc = .ok (.invokevirtual index, 3))
    (kk : ∀ (u : T9) (H1 : Heap) (locs1 : List Loc), va_P G vwCl (ws' u) H1 → va_D A (ws' u) → va_S A H0 H1 locs1 → W p l e R s m args below meth c H1 locs1 cells slots Q (F0 m (pc + 3) ls (.int r9 :: rest))) : W p l e R s m args below meth c H locs cells slots Q (F0 m pc ls st0) := by
  have hr := va_runV S hM cw ⟨fun a U g mk q => ⟨q.1, hbl U g mk a q.2.1, q.2.2⟩, hrc, fun U hU hW => ⟨rfl, hat U hU hW, m_Dpart hD is hnd hC⟩⟩ (g := F0 m pc ls st0) (locs := locs) (cells := cells) (slots := slots) (e := e) (below := below) (meth := meth) rfl hn hsize hstack (lv_room hW) hdg hf
  intro T hT X
  obtain ⟨v, st₀, t, T', L, h0, X', hL, e1, e2, ⟨hv, ⟨u, hp⟩, hz, hk⟩, st⟩ := hr T hT X
  cases hv
  rw [h0] at hz hk
  have hsub := wA_sub hD is hC
  obtain ⟨t2, a1, b1⟩ := kk u t.heap (locs ++ L) (hw u ▸ wsets_P hP hD is hC (h1 u) hp hk) (hw u ▸ va_D.same (wsets_fst hC (h1 u)) hD)
    ⟨Nat.le_trans hS.1 hz, fun q q1 q2 => (hk q (Nat.lt_of_lt_of_le q1 hS.1) (fun z => q2 (hsub q z))).trans (hS.2.1 q q1 q2), fun q hq => by
      rcases List.mem_append.mp hq with h | h
      · exact hS.2.2 q h
      · exact hsub _ (hL q h)⟩ T' e1 X'
  exact ⟨t2, st t2 a1, b1⟩
/-- an element of the script -/
theorem m_sld {b L k : Nat} {xs : Nat → Int32} (hx : p.tables.exec = Jvm.exec) (hb : c.code = cc) (hX : va_X b L xs s H0) (hbl : b < H0.size) (hbA : ¬ A b) (hS : va_S A H0 H locs) {i v : Int32} (hi : i = nI k) (hk : k < L) (hL : L ≤ 2048) (hv : xs k = v) (hdg : decode cc pc = .ok (.iaload, 1))
    (kk : W p l e R s m args below meth c H locs cells slots Q (F0 m (pc + 1) ls (.int v :: rest))) : W p l e R s m args below meth c H locs cells slots Q (F0 m pc ls (.int i :: .ref b :: rest)) := by
  subst hi
  refine va_sld hx hb hX hbl hbA hS (vp_in_nI hk (by omega)) hdg ?_
  rw [nI_clamp (by omega), hv]
  exact kk
end LR
theorem ix_of {b : Int32} {N : Nat} (hN : N < 1000) (h : inI b (nI N) = true) : ∃ j, j < N ∧ b = nI j := ⟨bx b, (m_ixp (by omega) h).2, (m_ixp (by omega) h).1⟩
set_option maxRecDepth 100000 in
set_option maxHeartbeats 1000000 in
theorem c_X8_thrown (l : Launch) (G : va_G) (cy : Nat → ClassId) (am aS aBf aAs aSv aPa aOu aTx aCo K OM LN PO CM : Nat) (iS th iw ea fa : Int32) : RO l yX8_thrown wsX8_thrown { frames := 0, cells := 0, slots := 0, locals := 0 } (PB G cy [(am, .inr (12, [.ref aS, .ref aBf, .ref aAs, .ref aSv, .int iS, .ref aPa, .int (nI K), .int th, .ref aOu, .int (nI OM), .ref aTx, .int (nI LN), .int (nI PO), .int iw, .int ea, .int fa, .ref aCo, .int (nI CM)]))]) [.ref am] (some (.int th)) := by
  refine RO.ofW (cc := cX8_thrown) (maxL := 1) (ret := (some .int)) (by decide) rfl (Nat.le_of_ble_eq_true rfl) ?_
  intro p e s m below meth cq S9 hr hlocks hPB ls hl
  obtain ⟨hxq, hb, hml, hown, hts⟩ := id S9
  obtain ⟨hP, hK⟩ := hPB
  have hl : lv_has ls 1 [(0, .ref am)] := hl
  have hi12 : ∀ w ∈ wsX80, w ∈ wsX8_thrown := by decide +kernel
  have hf42 := hts (.fieldLink RX8 42 "BathLeagueModel" "thrown" "I") (by decide +kernel)
  refine lv_aload_n hxq hb dX8_thrown_0 rfl (lv_at hl 0 rfl) ?_
  refine va_get (D := G) (ci := 12) (v := .int th) (C := RX8) (T := TX8) (N := 18) hxq hb hts hi12 hown hK.1 hP 0 rfl rfl 7 (by decide) hf42 (fun _ h9 => h9) rfl dX8_thrown_1 ?_
  exact ro_iret hxq hb hr hlocks rfl dX8_thrown_4
