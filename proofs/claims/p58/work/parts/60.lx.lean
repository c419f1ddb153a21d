/-! contracts over the whole object: the law's layer -/
def SameA (c d : va_W) : Prop := c.map Prod.fst = d.map Prod.fst
theorem SameA.rf {c : va_W} : SameA c c := rfl
theorem SameA.one {x : Nat} {u v : va_E} : SameA [(x, u)] [(x, v)] := rfl
theorem SameA.st {cy : Nat → ClassId} {a : Nat → Nat} {σ τ : St} : SameA (sWd cy a σ) (sWd cy a τ) := rfl
theorem SameA.ring {cy : Nat → ClassId} {ra : Nat → Nat → Nat} {ρ ρ' : Nat → St} : SameA (ringW cy ra ρ) (ringW cy ra ρ') := by
  unfold SameA ringW ringC
  rw [List.map_flatten, List.map_flatten, List.map_map, List.map_map]
  exact congrArg List.flatten (List.map_congr_left (fun k _ => SameA.st (cy := cy) (a := ra k) (σ := ρ k) (τ := ρ' k)))
def SameL : List va_W → List va_W → Prop
  | [], [] => True
  | c :: cs, d :: ds => SameA c d ∧ SameL cs ds
  | [], _ :: _ => False
  | _ :: _, [] => False
theorem SameL.nil : SameL [] [] := trivial
theorem SameL.cons {c d : va_W} {cs ds : List va_W} (h : SameA c d) (t : SameL cs ds) : SameL (c :: cs) (d :: ds) := ⟨h, t⟩
theorem SameL.len : ∀ {cs ds : List va_W}, SameL cs ds → cs.map List.length = ds.map List.length
  | [], [], _ => rfl
  | c :: cs, d :: ds, h => by
    have e : c.length = d.length := by
      have := congrArg List.length h.1
      rwa [List.length_map, List.length_map] at this
    rw [List.map_cons, List.map_cons, e, SameL.len h.2]
  | [], _ :: _, h => h.elim
  | _ :: _, [], h => h.elim
theorem SameL.flat : ∀ {cs ds : List va_W}, SameL cs ds → cs.flatten.map Prod.fst = ds.flatten.map Prod.fst
  | [], [], _ => rfl
  | c :: cs, d :: ds, h => by
    have e : c.map Prod.fst = d.map Prod.fst := h.1
    rw [List.flatten_cons, List.flatten_cons, List.map_append, List.map_append, e, SameL.flat h.2]
  | [], _ :: _, h => h.elim
  | _ :: _, [], h => h.elim
theorem SameL.fst {cs ds : List va_W} (h : SameL cs ds) : (fl cs).map Prod.fst = (fl ds).map Prod.fst := by
  rw [fl_eq, fl_eq]
  exact h.flat
abbrev OA : Type := Nat × Nat × Nat × Nat × Nat × Nat × Nat × Nat × Nat × Nat × Nat × (Nat → Nat) × (Nat → Nat) × (Nat → Nat) × (Nat → Nat → Nat)
abbrev OA.aX (s : OA) : Nat := s.1
abbrev OA.hi (s : OA) : Nat := s.2.1
abbrev OA.sc (s : OA) : Nat := s.2.2.1
abbrev OA.ob (s : OA) : Nat := s.2.2.2.1
abbrev OA.hA (s : OA) : Nat := s.2.2.2.2.1
abbrev OA.tx (s : OA) : Nat := s.2.2.2.2.2.1
abbrev OA.kd (s : OA) : Nat := s.2.2.2.2.2.2.1
abbrev OA.fs (s : OA) : Nat := s.2.2.2.2.2.2.2.1
abbrev OA.sd (s : OA) : Nat := s.2.2.2.2.2.2.2.2.1
abbrev OA.td (s : OA) : Nat := s.2.2.2.2.2.2.2.2.2.1
abbrev OA.vb (s : OA) : Nat := s.2.2.2.2.2.2.2.2.2.2.1
abbrev OA.na (s : OA) : Nat → Nat := s.2.2.2.2.2.2.2.2.2.2.2.1
abbrev OA.tr (s : OA) : Nat → Nat := s.2.2.2.2.2.2.2.2.2.2.2.2.1
abbrev OA.sn (s : OA) : Nat → Nat := s.2.2.2.2.2.2.2.2.2.2.2.2.2.1
abbrev OA.ra (s : OA) : Nat → Nat → Nat := s.2.2.2.2.2.2.2.2.2.2.2.2.2.2
abbrev OA.mk (aX : Nat) (hi : Nat) (sc : Nat) (ob : Nat) (hA : Nat) (tx : Nat) (kd : Nat) (fs : Nat) (sd : Nat) (td : Nat) (vb : Nat) (na : Nat → Nat) (tr : Nat → Nat) (sn : Nat → Nat) (ra : Nat → Nat → Nat) : OA := (aX, hi, sc, ob, hA, tx, kd, fs, sd, td, vb, na, tr, sn, ra)
abbrev OU : Type := St × St × Int32 × Int32 × Int32 × Int32 × Nat × Lx × (Nat → Int32) × (Nat → Int32) × (Nat → Int32) × (Nat → Int32)
abbrev OU.υ (s : OU) : St := s.1
abbrev OU.ς (s : OU) : St := s.2.1
abbrev OU.hs (s : OU) : Int32 := s.2.2.1
abbrev OU.ep (s : OU) : Int32 := s.2.2.2.1
abbrev OU.fc (s : OU) : Int32 := s.2.2.2.2.1
abbrev OU.ml (s : OU) : Int32 := s.2.2.2.2.2.1
abbrev OU.n (s : OU) : Nat := s.2.2.2.2.2.2.1
abbrev OU.x (s : OU) : Lx := s.2.2.2.2.2.2.2.1
abbrev OU.gk (s : OU) : Nat → Int32 := s.2.2.2.2.2.2.2.2.1
abbrev OU.g1 (s : OU) : Nat → Int32 := s.2.2.2.2.2.2.2.2.2.1
abbrev OU.g2 (s : OU) : Nat → Int32 := s.2.2.2.2.2.2.2.2.2.2.1
abbrev OU.g3 (s : OU) : Nat → Int32 := s.2.2.2.2.2.2.2.2.2.2.2
abbrev OU.mk (υ : St) (ς : St) (hs : Int32) (ep : Int32) (fc : Int32) (ml : Int32) (n : Nat) (x : Lx) (gk : Nat → Int32) (g1 : Nat → Int32) (g2 : Nat → Int32) (g3 : Nat → Int32) : OU := (υ, ς, hs, ep, fc, ml, n, x, gk, g1, g2, g3)
abbrev OV : Type := St × (Nat → St) × Nat × Nat × Nat × (Nat → Int32) × Nat × (Nat → Int32)
abbrev OV.σ (s : OV) : St := s.1
abbrev OV.ρ (s : OV) : Nat → St := s.2.1
abbrev OV.nx (s : OV) : Nat := s.2.2.1
abbrev OV.ct (s : OV) : Nat := s.2.2.2.1
abbrev OV.LN (s : OV) : Nat := s.2.2.2.2.1
abbrev OV.f (s : OV) : Nat → Int32 := s.2.2.2.2.2.1
abbrev OV.nb (s : OV) : Nat := s.2.2.2.2.2.2.1
abbrev OV.fb (s : OV) : Nat → Int32 := s.2.2.2.2.2.2.2
abbrev OV.mk (σ : St) (ρ : Nat → St) (nx : Nat) (ct : Nat) (LN : Nat) (f : Nat → Int32) (nb : Nat) (fb : Nat → Int32) : OV := (σ, ρ, nx, ct, LN, f, nb, fb)
/-- the object's cells, in chunks: a says where, V what is seen, u what is not -/
def OWc (cy : Nat → ClassId) (a : OA) (V : OV) (u : OU) : List va_W := [[(a.aX, .inr (11, [.ref (a.na 0), .ref (a.tr 0), .ref (a.sn 0), .int u.hs, .ref a.hi, .ref a.sc, .int u.ep, .int u.fc, .ref a.ob]))], sWd cy a.na V.σ, sWd cy a.tr u.υ, sWd cy a.sn u.ς, [(a.hi, .inr (7, [.ref a.hA, .int (nI V.nx), .int (nI V.ct)]))], [(a.hA, .inl (cy 4, 8, .inr (.inr (.inr (.inr (fun k => some (a.ra k 0)))))))], ringW cy a.ra V.ρ,
  [(a.sc, .inr (8, [.ref a.tx, .int (nI V.LN), .int (nI u.x.1), .int (bI u.x.2), .int (nI u.n), .ref a.kd, .ref a.fs, .ref a.sd, .ref a.td]))], [(a.tx, .inl (cy 1, 60, .inl V.f))], [(a.kd, .inl (cy 2, 13, .inl u.gk))], [(a.fs, .inl (cy 2, 13, .inl u.g1))], [(a.sd, .inl (cy 2, 13, .inl u.g2))], [(a.td, .inl (cy 2, 13, .inl u.g3))], [(a.ob, .inr (1, [.ref a.vb, .int 0, .int u.ml, .int (nI V.nb)]))], [(a.vb, .inl (cy 0, 16, .inl V.fb))]]
def OW (cy : Nat → ClassId) (a : OA) (V : OV) (u : OU) : va_W := fl (OWc cy a V u)
theorem OW_same {cy : Nat → ClassId} {a : OA} {V V' : OV} {u u' : OU} : SameL (OWc cy a V' u') (OWc cy a V u) :=
  SameL.cons SameA.one (SameL.cons SameA.st (SameL.cons SameA.st (SameL.cons SameA.st (SameL.cons SameA.one (SameL.cons SameA.one (SameL.cons SameA.ring (SameL.cons SameA.one (SameL.cons SameA.one (SameL.cons SameA.one (SameL.cons SameA.one (SameL.cons SameA.one (SameL.cons SameA.one (SameL.cons SameA.one (SameL.cons SameA.one SameL.nil))))))))))))))
theorem OW_fst {cy : Nat → ClassId} {a : OA} {V V' : OV} {u u' : OU} : (OW cy a V' u').map Prod.fst = (OW cy a V u).map Prod.fst := OW_same.fst
theorem OW_sA {cy : Nat → ClassId} {a : OA} {V V' : OV} {u u' : OU} : SameA (OW cy a V' u') (OW cy a V u) := OW_fst
/-- where the object itself lies -/
theorem OW_at {cy : Nat → ClassId} {a : OA} {V : OV} {u : OU} (ex : List va_W) : (fl (OW cy a V u :: ex))[0]? = some (a.aX, .inr (11, [.ref (a.na 0), .ref (a.tr 0), .ref (a.sn 0), .int u.hs, .ref a.hi, .ref a.sc, .int u.ep, .int u.fc, .ref a.ob])) := by
  cases ex <;> rfl
theorem wA_fst {w w' : va_W} (h : w'.map Prod.fst = w.map Prod.fst) : ∀ q, wA w' q → wA w q := by
  rintro q ⟨k, e, hk⟩
  have h1 : (w'.map Prod.fst)[k]? = some q := by rw [List.getElem?_map, hk]; rfl
  rw [h, List.getElem?_map] at h1
  cases hq : w[k]? with
  | none => rw [hq] at h1; cases h1
  | some z =>
    rw [hq] at h1
    obtain ⟨q2, e2⟩ := z
    cases h1
    exact ⟨k, e2, hq⟩
theorem room_conv {s : State} {pl : Platform} {r r' : Room} (h : s.hasRoom pl r' = true) (hr : r.frames ≤ r'.frames ∧ r.cells ≤ r'.cells ∧ r.slots ≤ r'.slots ∧ r.locals ≤ r'.locals) : s.hasRoom pl r = true := by
  obtain ⟨h1, h2, h3, h4⟩ := hr
  unfold State.hasRoom at h ⊢
  simp only [Bool.and_eq_true, decide_eq_true_eq] at h ⊢
  obtain ⟨⟨⟨⟨a, b1, b2, b3, b4, b5⟩, c⟩, d⟩, e⟩ := h
  exact ⟨⟨⟨⟨by omega, by omega, by omega, by omega, by omega, b5⟩, by omega⟩, by omega⟩, e⟩
theorem applies_conv {y : MethodName} {ws ws' : List Cond} {rm rm' : Room} {pl : Platform} {s : State} {m : MethodId} {args : Array Value} {below : List Frame} (hf : s.frames = .invoking m args :: below) (h : (headSpec ws' rm').appliesLoose y pl s = true) (hws : ∀ w ∈ ws, w ∈ ws') (hr : rm.frames ≤ rm'.frames ∧ rm.cells ≤ rm'.cells ∧ rm.slots ≤ rm'.slots ∧ rm.locals ≤ rm'.locals) : (headSpec ws rm).appliesLoose y pl s = true := by
  rw [Spec.appliesLoose_iff hf] at h ⊢
  obtain ⟨a, b, c, d, e, f, g, i⟩ := h
  exact ⟨a, b, c, d, e, f, room_conv g hr, atoms_intro fun w hw => atoms_spec (ws := ws') i w (hws w hw)⟩
/-- a contract under more words and more room, said of a stronger start and a weaker end -/
theorem Met.conv {l : Launch} {y : MethodName} {ws ws' : List Cond} {rm rm' : Room} {Pc Pc' : Array Value → State → Prop} {Qc Qc' : Array Value → State → Outcome → State → Prop} {mc ms mc' ms' : Nat} {free free' : Addr → Prop} (h : Met l y ws rm Pc Qc mc ms free) (hws : ∀ w ∈ ws, w ∈ ws') (hr : rm.frames ≤ rm'.frames ∧ rm.cells ≤ rm'.cells ∧ rm.slots ≤ rm'.slots ∧ rm.locals ≤ rm'.locals)
    (hP : ∀ a s, Pc' a s → Pc a s) (hQ : ∀ a s o t, Pc' a s → Qc a s o t → Qc' a s o t) (hc : mc ≤ mc') (hs : ms ≤ ms') (hf : ∀ q, free q → free' q) : Met l y ws' rm' Pc' Qc' mc' ms' free' := by
  intro p e ha hcf hck s m args below hfr happ hp _
  obtain ⟨n, o, h1, h2, h3, h4, L, h5, h6⟩ := h p e ha hcf hck s m args below hfr (applies_conv hfr happ hws hr) (hP _ _ hp) trivial
  exact ⟨n, o, h1, h2, h3, hQ _ _ _ _ hp h4, L, ⟨h5.1, h5.2.1, h5.2.2.mono hc hs⟩, fun q hq => hf _ (h6 q hq)⟩
theorem vx_Met.conv {l : Launch} {y : MethodName} {ws ws' : List Cond} {rm rm' : Room} {Pc Pc' : Array Value → State → Prop} {Qc Qc' : Array Value → State → Outcome → State → Prop} {XC XC' : String → State → State → Prop} {mc ms : Nat} {free free' : Addr → Prop} (h : vx_Met l y ws rm Pc Qc XC mc ms free) (hws : ∀ w ∈ ws, w ∈ ws') (hr : rm.frames ≤ rm'.frames ∧ rm.cells ≤ rm'.cells ∧ rm.slots ≤ rm'.slots ∧ rm.locals ≤ rm'.locals)
    (hP : ∀ a s, Pc' a s → Pc a s) (hQ : ∀ a s o t, Pc' a s → Qc a s o t → Qc' a s o t) (hX : ∀ E a s t, Pc' a s → XC E s t → XC' E s t) (hf : ∀ q, free q → free' q) : vx_Met l y ws' rm' Pc' Qc' XC' mc ms free' := by
  intro p e ha hcf hck s m args below hfr happ hp _
  obtain ⟨n, o, h1, h2, h3, h4⟩ := h p e ha hcf hck s m args below hfr (applies_conv hfr happ hws hr) (hP _ _ hp) trivial
  refine ⟨n, o, h1, h2, h3, ?_⟩
  rcases h4 with ⟨h4, L, h5, h6⟩ | ⟨q, ho, E, ce, L, k1, k2, k3, k4, k5, k6, k7⟩
  · exact Or.inl ⟨hQ _ _ _ _ hp h4, L, h5, fun q hq => hf _ (h6 q hq)⟩
  · exact Or.inr ⟨q, ho, E, ce, L, hX _ _ _ _ hp k1, k2, k3, k4, k5, k6, fun z hz => hf _ (k7 z hz)⟩
/-- a class's contract over a part of the chunks, said over all -/
theorem WC.lift {l : Launch} {y : MethodName} {ws ws' : List Cond} {rm rm' : Room} {G : va_G} {P P' : State → Prop} {av : List Value} {Wc Wn cs ns : List va_W} {r : Option Value} (hM : WC l y ws rm G P av (fl cs) (fl ns) r) (hPP : ∀ U, P' U → P U) (hPW : ∀ U, P' U → va_P G vwCl (fl Wc) U.heap) (js : List Nat) (h : js.map (fun j => Wc[j]?) = cs.map some) (hnd : va_nd js = true) (hf : SameL ns cs) (hw : csets Wc js ns = Wn) (hws : ∀ w ∈ ws, w ∈ ws') (hr : rm.frames ≤ rm'.frames ∧ rm.cells ≤ rm'.cells ∧ rm.slots ≤ rm'.slots ∧ rm.locals ≤ rm'.locals) : WC l y ws' rm' G P' av (fl Wc) (fl Wn) r := by
  have hC := poss_F h
  have h1 := hf.fst
  have hW : wsets (fl Wc) (poss Wc js) (fl ns) = fl Wn := hw ▸ wsets_F h hnd hf.len
  unfold WC at hM ⊢
  refine Met.conv hM hws hr (fun a s ⟨ha, hp, hd⟩ => ⟨ha, hPP _ hp, m_Dpart hd _ (poss_nd hnd) hC⟩) ?_ (Nat.le_refl _) (Nat.le_refl _) (fun q hq => wA_subR _ hC q hq)
  rintro a s o t ⟨-, hp, hd⟩ ⟨ho, hn, hz, hk⟩
  exact ⟨ho, hW ▸ wsets_P (hPW _ hp) hd (poss Wc js) hC h1 hn hk, hz, fun q h1 h2 => hk q h1 (fun z => h2 (wA_subR _ hC q z))⟩
theorem TX.lift {l : Launch} {y : MethodName} {ws ws' : List Cond} {rm rm' : Room} {G : va_G} {P P' : State → Prop} {av : List Value} {Wc Wn cs ns : List va_W} {E : String} (hM : TX l y ws rm G P av (fl cs) (fl ns) E) (hPP : ∀ U, P' U → P U) (hPW : ∀ U, P' U → va_P G vwCl (fl Wc) U.heap) (js : List Nat) (h : js.map (fun j => Wc[j]?) = cs.map some) (hnd : va_nd js = true) (hf : SameL ns cs) (hw : csets Wc js ns = Wn) (hws : ∀ w ∈ ws, w ∈ ws') (hr : rm.frames ≤ rm'.frames ∧ rm.cells ≤ rm'.cells ∧ rm.slots ≤ rm'.slots ∧ rm.locals ≤ rm'.locals) : TX l y ws' rm' G P' av (fl Wc) (fl Wn) E := by
  have hC := poss_F h
  have h1 := hf.fst
  have hW : wsets (fl Wc) (poss Wc js) (fl ns) = fl Wn := hw ▸ wsets_F h hnd hf.len
  unfold TX at hM ⊢
  refine vx_Met.conv hM hws hr (fun a s ⟨ha, hp, hd⟩ => ⟨ha, hPP _ hp, m_Dpart hd _ (poss_nd hnd) hC⟩) (fun _ _ _ _ _ hf => hf) ?_ (fun q hq => wA_subR _ hC q hq)
  rintro E1 a s t ⟨-, hp, hd⟩ ⟨ho, hn, hz, hk⟩
  exact ⟨ho, hW ▸ wsets_P (hPW _ hp) hd (poss Wc js) hC h1 hn hk, hz, fun q h1 h2 => hk q h1 (fun z => h2 (wA_subR _ hC q z))⟩
theorem RO.lift {l : Launch} {y : MethodName} {ws ws' : List Cond} {rm rm' : Room} {G : va_G} {P P' : State → Prop} {av : List Value} {w : va_W} {r : Option Value} (hM : RO l y ws rm P av r) (hPP : ∀ U, P' U → P U) (hPW : ∀ U, P' U → va_P G vwCl w U.heap) (hws : ∀ w ∈ ws, w ∈ ws') (hr : rm.frames ≤ rm'.frames ∧ rm.cells ≤ rm'.cells ∧ rm.slots ≤ rm'.slots ∧ rm.locals ≤ rm'.locals) : WC l y ws' rm' G P' av w w r := by
  unfold RO at hM
  unfold WC
  refine Met.conv hM hws hr (fun a s ⟨ha, hp, _⟩ => ⟨ha, hPP _ hp⟩) ?_ (Nat.le_refl _) (Nat.le_refl _) (fun q hq => hq.elim)
  rintro a s o t ⟨-, hp, -⟩ ⟨ho, hh⟩
  exact ⟨ho, by rw [hh]; exact hPW _ hp, by rw [hh]; exact Nat.le_refl _, fun q _ _ => by rw [hh]⟩
/-- all that the law's methods take of the tables -/
def PQ (G : va_G) (cy : Nat → ClassId) (kS vS : Nat → Nat) (w : va_W) : State → Prop := fun U => PB G cy w U ∧ TZ (va_A w U.heap.size) U ∧ XS (va_A w U.heap.size) U ∧ SK kS vS (va_A w U.heap.size) U ∧ DZ (va_A w U.heap.size) U ∧ va_AOA .int U ∧ va_AO "BathLeague$State" U
theorem va_AOA.moved {ty : FieldType} {u U : State} (hvm : u.vm.Alike U.vm) (h : va_AOA ty u) : va_AOA ty U := by
  have h2 : (Cond.arrayOver (.array ty)).before #[] u = true := h
  rw [← Cond.arrayOver_setVmC hvm] at h2
  have e : (Cond.arrayOver (.array ty)).before #[] (u.setVm U.vm) = (Cond.arrayOver (.array ty)).before #[] U := by
    simp only [Cond.before, Cond.holds, Cond.value, State.vm_setVm]
    rfl
  unfold va_AOA
  rw [← e]
  exact h2
theorem TZ.blind58 {A : Nat → Prop} {U : State} {g : JFrame} {mk : MethodId} {a : Array Value} (h : TZ A U) : TZ A (U.calling g mk a) := by
  obtain ⟨t, z, u⟩ := h
  exact ⟨t, va_Z.moved (u := U) (U := U.calling g mk a) (Vm.Alike.refl U.vm) z, va_T.moved (u := U) (U := U.calling g mk a) (Vm.Alike.refl U.vm) u⟩
theorem PQ.blind {G : va_G} {cy : Nat → ClassId} {kS vS : Nat → Nat} {w : va_W} : ∀ (U : State) (g : JFrame) (mk : MethodId) (a : Array Value), PQ G cy kS vS w U → PQ G cy kS vS w (U.calling g mk a) := fun U g mk a h => ⟨PB.blind U g mk a h.1, h.2.1.blind58, h.2.2.1.blind, h.2.2.2.1.blind, h.2.2.2.2.1.blind, va_AOA.moved (u := U) (U := U.calling g mk a) (Vm.Alike.refl U.vm) h.2.2.2.2.2.1, va_AO.moved (u := U) (U := U.calling g mk a) (Vm.Alike.refl U.vm) h.2.2.2.2.2.2⟩
theorem PQ.at {G : va_G} {cy : Nat → ClassId} {kS vS : Nat → Nat} {A : Nat → Prop} {w : va_W} {s : State} {H : Heap} {locs : List Loc} (hX : XS A s) (hT : TZ A s) (hSK : SK kS vS A s) (hDZ : DZ A s) (hAA : va_AOA .int s) (hAO : va_AO "BathLeague$State" s) (hS : va_S A s.heap H locs) (hB : ∀ q, va_A w H.size q → A q) (hK : KK G cy s) (hP : va_P G vwCl w H) : ∀ U : State, U.heap = H → s.WarmedH U.vm → PQ G cy kS vS w U := by
  intro U hU hW
  have hB' : ∀ q, va_A w U.heap.size q → A q := by rw [hU]; exact hB
  exact ⟨PB.at hK hP U hU hW, TZ.at hT hS hB' U hU hW, hX.at hS hB' U hU hW, hSK.at hS hB' U hU hW, hDZ.at hS hB' U hU hW, hAA.moved hW.alike, hAO.moved hW.alike⟩
section PQS
variable {G : va_G} {cy : Nat → ClassId} {kS vS : Nat → Nat} {Wc cs : List va_W} {U : State}
theorem PQ.W (h : PQ G cy kS vS (fl Wc) U) : va_P G vwCl (fl Wc) U.heap := h.1.1
theorem PQ.sA (js : List Nat) (hj : js.map (fun j => Wc[j]?) = cs.map some) : ∀ q, wA (fl cs) q → va_A (fl Wc) U.heap.size q := fun q h => Or.inl (wA_subR _ (poss_F hj) q h)
theorem PQ.B (h : PQ G cy kS vS (fl Wc) U) (js : List Nat) (hj : js.map (fun j => Wc[j]?) = cs.map some) : PB G cy (fl cs) U := ⟨PpartC h.W js hj, h.1.2⟩
theorem PQ.T (h : PQ G cy kS vS (fl Wc) U) (js : List Nat) (hj : js.map (fun j => Wc[j]?) = cs.map some) : PT G cy (fl cs) U := ⟨h.B js hj, TZ.at h.2.1 va_S.rf (PQ.sA js hj) U rfl (State.WarmedH.refl U)⟩
theorem PQ.X (h : PQ G cy kS vS (fl Wc) U) (js : List Nat) (hj : js.map (fun j => Wc[j]?) = cs.map some) : PX G cy (fl cs) U := ⟨h.T js hj, XS.at h.2.2.1 va_S.rf (PQ.sA js hj) U rfl (State.WarmedH.refl U)⟩
theorem PQ.S (h : PQ G cy kS vS (fl Wc) U) (js : List Nat) (hj : js.map (fun j => Wc[j]?) = cs.map some) : PS G cy kS vS (fl cs) U := ⟨h.B js hj, SK.at h.2.2.2.1 va_S.rf (PQ.sA js hj) U rfl (State.WarmedH.refl U)⟩
theorem PQ.D (h : PQ G cy kS vS (fl Wc) U) (js : List Nat) (hj : js.map (fun j => Wc[j]?) = cs.map some) : PD G cy kS vS (fl cs) U := ⟨h.S js hj, DZ.at h.2.2.2.2.1 va_S.rf (PQ.sA js hj) U rfl (State.WarmedH.refl U)⟩
theorem PQ.TS (h : PQ G cy kS vS (fl Wc) U) (js : List Nat) (hj : js.map (fun j => Wc[j]?) = cs.map some) : PTS G cy kS vS (fl cs) U := ⟨h.S js hj, (h.T js hj).2⟩
theorem PQ.XS (h : PQ G cy kS vS (fl Wc) U) (js : List Nat) (hj : js.map (fun j => Wc[j]?) = cs.map some) : PXS G cy kS vS (fl cs) U := ⟨h.X js hj, (h.S js hj).2⟩
end PQS
