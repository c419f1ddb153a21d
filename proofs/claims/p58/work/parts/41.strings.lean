/-! the literals that are read: their objects lie outside what is written -/
def strS : List (String × Nat × String) := [("BathLeague$Script", 53, "bath"), ("BathLeague$Script", 72, "join "), ("BathLeague$Script", 78, "leave "), ("BathLeague$Script", 80, "ap "), ("BathLeague$Script", 88, "ick"), ("BathLeague$Script", 90, "lug "), ("BathLeague$Script", 95, "our "), ("BathLeague$Script", 97, "duck "), ("BathLeagueLaw", 330, ":"), ("BathLeagueLaw", 335, "l"), ("BathLeagueLaw", 337, "C"), ("BathLeagueLaw", 343, ""), ("BathLeagueLaw", 345, "+"), ("BathLeagueLaw", 347, "-"), ("BathLeagueLaw", 349, "*"), ("BathLeagueLaw", 362, "tpjld"), ("BathLeagueLaw", 407, "tick "), ("BathLeagueLaw", 409, ";tap "), ("BathLeagueLaw", 411, " h "), ("BathLeagueLaw", 413, ";tick")]
def bytS : List (List Int32) := [[98, 97, 116, 104], [106, 111, 105, 110, 32], [108, 101, 97, 118, 101, 32], [97, 112, 32], [105, 99, 107], [108, 117, 103, 32], [111, 117, 114, 32], [100, 117, 99, 107, 32], [58], [108], [67], [], [43], [45], [42], [116, 112, 106, 108, 100], [116, 105, 99, 107, 32], [59, 116, 97, 112, 32], [32, 104, 32], [59, 116, 105, 99, 107]]
def lenS : List Nat := [4, 5, 6, 3, 3, 4, 4, 5, 1, 1, 1, 0, 1, 1, 1, 5, 5, 5, 3, 5]
def sIx (i : Nat) : String × Nat × String := strS.getD i ("", 0, "")
def chS (i k : Nat) : Int32 := (bytS.getD i []).getD k 0
def ltS (i : Nat) : List Int32 := bytS.getD i []
def lnS (i : Nat) : Nat := lenS.getD i 0
theorem chS_ok : ∀ i, i < 20 → lenS.getD i 0 = (bytS.getD i []).length ∧ (bytS.getD i []).length < 10 ∧ ∀ k, k < lenS.getD i 0 → ((chS i k &&& 255).toUInt32 % 65536).toInt32 = chS i k ∧ vp_nar .char (chS i k) = chS i k ∧ ¬ chS i k = 0 := by decide +kernel
theorem lnS_eq {i : Nat} (h : i < 20) : lnS i = (ltS i).length := (chS_ok i h).1
theorem lnS_lt {i : Nat} (h : i < 20) : lnS i < 10 := by rw [lnS_eq h]; exact (chS_ok i h).2.1
/-- one literal's object and its bytes; two literals of one text are one object, so nothing is said of their being apart -/
abbrev strI (n : Nat) (bs : List Int32) (k v : Nat) (A : Nat → Prop) (U : State) (H : Heap) : Prop := va_O "java/lang/String" k A U H ∧ va_OF "java/lang/String" "coder" "B" (.int 0) k A U H ∧ va_OF "java/lang/String" "value" "[B" (.ref v) k A U H ∧ va_T .byte v n (fun j => .int (bs.getD j 0)) A U H
def litS (kS vS : Nat → Nat) (A : Nat → Prop) (U : State) (H : Heap) : Prop := (∀ i, i < 20 → strI (lenS.getD i 0) (bytS.getD i []) (kS i) (vS i) A U H) ∧ True
theorem litS.moved {kS vS : Nat → Nat} {A : Nat → Prop} {u U : State} {H : Heap} (hvm : u.vm.Alike U.vm) (h : litS kS vS A u H) : litS kS vS A U H := ⟨fun i hi => ⟨va_O.moved hvm (h.1 i hi).1, va_OF.moved hvm (h.1 i hi).2.1, va_OF.moved hvm (h.1 i hi).2.2.1, va_T.moved hvm (h.1 i hi).2.2.2⟩, trivial⟩
theorem litS.kept {kS vS : Nat → Nat} {A : Nat → Prop} {U : State} {H H1 : Heap} (h : litS kS vS A U H) (hq : ∀ a : Nat, a < H.size → ¬ A a → H1[a]? = H[a]?) : litS kS vS A U H1 := ⟨fun i hi => ⟨(h.1 i hi).1.kept hq, (h.1 i hi).2.1.kept hq, (h.1 i hi).2.2.1.kept hq, (h.1 i hi).2.2.2.kept hq⟩, trivial⟩
theorem litS.narrow {kS vS : Nat → Nat} {A B : Nat → Prop} {U : State} {H : Heap} (h : litS kS vS A U H) (hAB : ∀ q, B q → A q) : litS kS vS B U H := ⟨fun i hi => ⟨(h.1 i hi).1.narrow hAB, (h.1 i hi).2.1.narrow hAB, (h.1 i hi).2.2.1.narrow hAB, (h.1 i hi).2.2.2.narrow hAB⟩, trivial⟩
theorem litS.recv {kS vS : Nat → Nat} {A : Nat → Prop} {s : State} {H : Heap} {locs : List Loc} {i : Nat} (hE : litS kS vS A s s.heap) (hi : i < 20) (hS : va_S A s.heap H locs) : ∃ cell : Cell, H[kS i]? = some cell ∧ cell.vm.isStatics = false ∧ s.vm.findClass "java/lang/String" = some cell.cls := by
  obtain ⟨cell, h1, h2, h3, -⟩ := (hE.1 i hi).1.kept hS.2.1
  exact ⟨cell, h1, h2, h3⟩
def SK (kS vS : Nat → Nat) (A : Nat → Prop) (U : State) : Prop := litS kS vS A U U.heap ∧ (∀ i, i < 20 → vk_R (sIx i).1 (sIx i).2.1 (sIx i).2.2 (kS i) U) ∧ va_Z "java/lang/String" "COMPACT_STRINGS" "Z" (.int 1) A U U.heap ∧ va_Zq "jdk/internal/util/Preconditions" "SIOOBE_FORMATTER" "Ljava/util/function/BiFunction;" A U U.heap
theorem SK.blind {kS vS : Nat → Nat} {A : Nat → Prop} {U : State} {g : JFrame} {mk : MethodId} {a : Array Value} (h : SK kS vS A U) : SK kS vS A (U.calling g mk a) := by
  obtain ⟨h1, h2, h3, h4⟩ := h
  exact ⟨litS.moved (u := U) (U := U.calling g mk a) (Vm.Alike.refl U.vm) h1, fun i hi => vk_R.same (u := U) (U := U.calling g mk a) rfl (h2 i hi), va_Z.moved (u := U) (U := U.calling g mk a) (Vm.Alike.refl U.vm) h3, va_Zq.moved (u := U) (U := U.calling g mk a) (Vm.Alike.refl U.vm) h4⟩
theorem SK.at {kS vS : Nat → Nat} {A B : Nat → Prop} {s : State} {H : Heap} {locs : List Loc} (h : SK kS vS A s) (hS : va_S A s.heap H locs) (hB : ∀ q, B q → A q) : ∀ U : State, U.heap = H → s.WarmedH U.vm → SK kS vS B U := by
  intro U hU hW
  obtain ⟨h1, h2, h3, h4⟩ := h
  refine ⟨?_, fun i hi => vk_R.warm hW (h2 i hi), ?_, ?_⟩
  · rw [hU]; exact ((h1.kept hS.2.1).narrow hB).moved hW.alike
  · rw [hU]; exact ((h3.kept hS.2.1).narrow hB).moved hW.alike
  · rw [hU]; exact ((h4.kept hS.2.1).narrow hB).moved hW.alike
/-- a method of String over the literals -/
def PK (G : va_G) (cy : Nat → ClassId) (kS vS : Nat → Nat) : State → Prop := fun U => KK G cy U ∧ SK kS vS (fun _ => False) U
theorem PK.blind {G : va_G} {cy : Nat → ClassId} {kS vS : Nat → Nat} : ∀ (U : State) (g : JFrame) (mk : MethodId) (a : Array Value), PK G cy kS vS U → PK G cy kS vS (U.calling g mk a) := fun U g mk a h => ⟨KK.calling h.1, h.2.blind⟩
theorem PK.at {G : va_G} {cy : Nat → ClassId} {kS vS : Nat → Nat} {A : Nat → Prop} {s : State} {H : Heap} {locs : List Loc} (hK : KK G cy s) (hSK : SK kS vS A s) (hS : va_S A s.heap H locs) : ∀ U : State, U.heap = H → s.WarmedH U.vm → PK G cy kS vS U := fun U hU hW => ⟨KK.warm hW hK, hSK.at hS (fun _ h => h.elim) U hU hW⟩
/-- a method that reads the literals, over its world -/
def PS (G : va_G) (cy : Nat → ClassId) (kS vS : Nat → Nat) (w : va_W) : State → Prop := fun U => PB G cy w U ∧ SK kS vS (wA w) U
theorem PS.blind {G : va_G} {cy : Nat → ClassId} {kS vS : Nat → Nat} {w : va_W} : ∀ (U : State) (g : JFrame) (mk : MethodId) (a : Array Value), PS G cy kS vS w U → PS G cy kS vS w (U.calling g mk a) := fun U g mk a h => ⟨PB.blind U g mk a h.1, h.2.blind⟩
theorem PS.at {G : va_G} {cy : Nat → ClassId} {kS vS : Nat → Nat} {A : Nat → Prop} {w : va_W} {s : State} {H : Heap} {locs : List Loc} (hSK : SK kS vS A s) (hS : va_S A s.heap H locs) (hB : ∀ q, wA w q → A q) (hK : KK G cy s) (hP : va_P G vwCl w H) : ∀ U : State, U.heap = H → s.WarmedH U.vm → PS G cy kS vS w U := fun U hU hW => ⟨PB.at hK hP U hU hW, hSK.at hS hB U hU hW⟩
/-- the first place of c in a text -/
def ixS (i : Nat) (c : Int32) : Int32 := atF (chS i) c 0 (lnS i)
set_option maxRecDepth 100000 in
set_option maxHeartbeats 1000000 in
theorem c_J0_isLatin1_aae02 (l : Launch) (G : va_G) (cy : Nat → ClassId) (kS vS : Nat → Nat) (i : Nat) (hi : i < 20) : RO l yJ0_isLatin1_aae02 wsJ0_isLatin1_aae02 { frames := 0, cells := 0, slots := 0, locals := 0 } (PK G cy kS vS) [.ref (kS i)] (some (.int 1)) := by
  refine RO.ofW (cc := cJ0_isLatin1_aae02) (maxL := 1) (ret := (some .boolean)) (by decide) rfl (Nat.le_of_ble_eq_true rfl) ?_
  intro p e s m below meth cq S9 hr hlocks hPB ls hl
  obtain ⟨hxq, hb, hml, hown, hts⟩ := id S9
  obtain ⟨hK, hSK⟩ := hPB
  have hl : lv_has ls 1 [(0, .ref (kS i))] := hl
  have hS : va_S (fun _ => False) s.heap s.heap [] := va_S.rf
  have hP : va_P G vwCl [] s.heap := fun k q h => by simp at h
  refine va_gets hxq hb hSK.2.2.1 hS hown (hts (.fieldLink RJ0 38 "java/lang/String" "COMPACT_STRINGS" "Z") (by decide +kernel)) (fun _ h9 => h9) dJ0_isLatin1_aae02_0 ?_
  refine lv_if_eq (tgt := 17) hxq hb dJ0_isLatin1_aae02_3 (by decide) (fun c_1 => ?_) (fun c_1 => ?_)
  · exact absurd c_1 (by decide)
  · refine lv_aload_n hxq hb dJ0_isLatin1_aae02_6 rfl (lv_at hl 0 rfl) ?_
    refine vk_getf hxq hb (hSK.1.1 i hi).2.1 hS hown (hts (.fieldLink RJ0 15 "java/lang/String" "coder" "B") (by decide +kernel)) (fun _ h9 => h9) dJ0_isLatin1_aae02_7 ?_
    refine lv_if_ne (tgt := 17) hxq hb dJ0_isLatin1_aae02_10 (by decide) (fun c_2 => ?_) (fun c_2 => ?_)
    · exact absurd c_2 (by decide)
    · refine lv_iconst (v := 1) hxq hb dJ0_isLatin1_aae02_13 (by decide) ?_
      refine lv_goto (tgt := 18) hxq hb dJ0_isLatin1_aae02_14 (by decide) ?_
      exact ro_zret hxq hb hr hlocks (by first | rfl | (split <;> rfl)) rfl dJ0_isLatin1_aae02_18

set_option maxRecDepth 100000 in
set_option maxHeartbeats 1000000 in
theorem c_J0_coder_7d493 (l : Launch) (G : va_G) (cy : Nat → ClassId) (kS vS : Nat → Nat) (i : Nat) (hi : i < 20) : RO l yJ0_coder_7d493 wsJ0_coder_7d493 { frames := 0, cells := 0, slots := 0, locals := 0 } (PK G cy kS vS) [.ref (kS i)] (some (.int 0)) := by
  refine RO.ofW (cc := cJ0_coder_7d493) (maxL := 1) (ret := (some .byte)) (by decide) rfl (Nat.le_of_ble_eq_true rfl) ?_
  intro p e s m below meth cq S9 hr hlocks hPB ls hl
  obtain ⟨hxq, hb, hml, hown, hts⟩ := id S9
  obtain ⟨hK, hSK⟩ := hPB
  have hl : lv_has ls 1 [(0, .ref (kS i))] := hl
  have hS : va_S (fun _ => False) s.heap s.heap [] := va_S.rf
  have hP : va_P G vwCl [] s.heap := fun k q h => by simp at h
  refine va_gets hxq hb hSK.2.2.1 hS hown (hts (.fieldLink RJ0 38 "java/lang/String" "COMPACT_STRINGS" "Z") (by decide +kernel)) (fun _ h9 => h9) dJ0_coder_7d493_0 ?_
  refine lv_if_eq (tgt := 13) hxq hb dJ0_coder_7d493_3 (by decide) (fun c_1 => ?_) (fun c_1 => ?_)
  · exact absurd c_1 (by decide)
  · refine lv_aload_n hxq hb dJ0_coder_7d493_6 rfl (lv_at hl 0 rfl) ?_
    refine vk_getf hxq hb (hSK.1.1 i hi).2.1 hS hown (hts (.fieldLink RJ0 15 "java/lang/String" "coder" "B") (by decide +kernel)) (fun _ h9 => h9) dJ0_coder_7d493_7 ?_
    refine lv_goto (tgt := 14) hxq hb dJ0_coder_7d493_10 (by decide) ?_
    exact ro_zret hxq hb hr hlocks rfl rfl dJ0_coder_7d493_14

set_option maxRecDepth 100000 in
set_option maxHeartbeats 1000000 in
theorem c_J0_length_8abf5 (l : Launch) (G : va_G) (cy : Nat → ClassId) (kS vS : Nat → Nat) (i : Nat) (hi : i < 20) : RO l yJ0_length_8abf5 wsJ0_length_8abf5 { frames := 1, cells := 0, slots := 0, locals := 20 } (PK G cy kS vS) [.ref (kS i)] (some (.int (nI (lnS i)))) := by
  refine RO.ofW (cc := cJ0_length_8abf5) (maxL := 1) (ret := (some .int)) (by decide) rfl (Nat.le_of_ble_eq_true rfl) ?_
  intro p e s m below meth cq S9 hr hlocks hPB ls hl
  obtain ⟨hxq, hb, hml, hown, hts⟩ := id S9
  obtain ⟨hK, hSK⟩ := hPB
  have hl : lv_has ls 1 [(0, .ref (kS i))] := hl
  have hS : va_S (fun _ => False) s.heap s.heap [] := va_S.rf
  have hP : va_P G vwCl [] s.heap := fun k q h => by simp at h
  refine lv_aload_n hxq hb dJ0_length_8abf5_0 rfl (lv_at hl 0 rfl) ?_
  refine vk_getf hxq hb (hSK.1.1 i hi).2.2.1 hS hown (hts (.fieldLink RJ0 9 "java/lang/String" "value" "[B") (by decide +kernel)) (fun _ h9 => h9) dJ0_length_8abf5_1 ?_
  refine va_tlen hxq hb (hSK.1.1 i hi).2.2.2 hS (v := nI (lnS i)) rfl dJ0_length_8abf5_4 ?_
  refine lv_aload_n hxq hb dJ0_length_8abf5_5 rfl (lv_at hl 0 rfl) ?_
  refine c_roVi S9 (c_J0_coder_7d493 l G cy kS vS i (by omega)) (cwV 0 hts gJ0_length_8abf5_J0_coder_7d493 rfl rfl rfl (by decide +kernel) ⟨Nat.le_of_ble_eq_true rfl, Nat.le_of_ble_eq_true rfl⟩) PK.blind (litS.recv hSK.1 (by first | assumption | decide) hS) (PK.at hK hSK hS) rfl hl.1 rfl (Nat.le_of_ble_eq_true rfl) ⟨Nat.zero_le _, Nat.zero_le _⟩ dJ0_length_8abf5_6 ?_
  refine lv_ishr hxq hb dJ0_length_8abf5_9 ?_
  refine lv_t0 (show nI (lnS i) >>> (0 : Int32) = nI (lnS i) from (pk_shrN (Nat.lt_of_lt_of_le (lnS_lt hi) (by decide)) 0 0 (by decide)).trans (by rw [Nat.pow_zero, Nat.div_one])) ?_
  exact ro_iret hxq hb hr hlocks rfl dJ0_length_8abf5_10

set_option maxRecDepth 100000 in
set_option maxHeartbeats 1000000 in
theorem c_J3_checkIndex_n (l : Launch) (G : va_G) (cy : Nat → ClassId) (k n : Nat) (hk9 : k < n) (hn9 : n < 100000) : RO l yJ3_checkIndex_8e157 wsJ3_checkIndex_8e157 { frames := 0, cells := 0, slots := 0, locals := 0 } (PB G cy []) [.int (nI k), .int (nI n), .null] (some (.int (nI k))) := by
  refine RO.ofW (cc := cJ3_checkIndex_8e157) (maxL := 3) (ret := (some .int)) (by decide) rfl (Nat.le_of_ble_eq_true rfl) ?_
  intro p e s m below meth cq S9 hr hlocks hPB ls hl
  obtain ⟨hxq, hb, hml, hown, hts⟩ := id S9
  obtain ⟨hP, hK⟩ := hPB
  have hl : lv_has ls 3 [(0, .int (nI k)), (1, .int (nI n)), (2, .null)] := hl
  refine lv_iload_n hxq hb dJ3_checkIndex_8e157_0 rfl (lv_at hl 0 rfl) ?_
  refine lv_if_lt (tgt := 9) hxq hb dJ3_checkIndex_8e157_1 (by decide) (fun c_1 => ?_) (fun c_1 => ?_)
  · have k_2 : k < 0 := (m_ltN (a := k) (b := 0) rfl rfl (by omega) (by omega)).mp c_1
    have k_2' : ¬ (0 ≤ k) := by omega
    exfalso; omega
  · have k_3 : ¬ (k < 0) := fun z => c_1 ((m_ltN (a := k) (b := 0) rfl rfl (by omega) (by omega)).mpr z)
    have k_3' : 0 ≤ k := by omega
    refine lv_iload_n hxq hb dJ3_checkIndex_8e157_4 rfl (lv_at hl 0 rfl) ?_
    refine lv_iload_n hxq hb dJ3_checkIndex_8e157_5 rfl (lv_at hl 1 rfl) ?_
    refine lv_icmp_lt (tgt := 16) hxq hb dJ3_checkIndex_8e157_6 (by decide) (fun c_4 => ?_) (fun c_4 => ?_)
    · have k_5 : k < n := (m_ltN (a := k) (b := n) rfl rfl (by omega) (by omega)).mp c_4
      have k_5' : ¬ (n ≤ k) := by omega
      refine lv_iload_n hxq hb dJ3_checkIndex_8e157_16 rfl (lv_at hl 0 rfl) ?_
      exact ro_iret hxq hb hr hlocks rfl dJ3_checkIndex_8e157_17
    · have k_6 : ¬ (k < n) := fun z => c_4 ((m_ltN (a := k) (b := n) rfl rfl (by omega) (by omega)).mpr z)
      have k_6' : n ≤ k := by omega
      exfalso; omega

set_option maxRecDepth 100000 in
set_option maxHeartbeats 1000000 in
theorem c_J3_checkIndex_r (l : Launch) (G : va_G) (cy : Nat → ClassId) (t9 k n : Nat) (hk9 : k < n) (hn9 : n < 100000) : RO l yJ3_checkIndex_8e157 wsJ3_checkIndex_8e157 { frames := 0, cells := 0, slots := 0, locals := 0 } (PB G cy []) [.int (nI k), .int (nI n), .ref t9] (some (.int (nI k))) := by
  refine RO.ofW (cc := cJ3_checkIndex_8e157) (maxL := 3) (ret := (some .int)) (by decide) rfl (Nat.le_of_ble_eq_true rfl) ?_
  intro p e s m below meth cq S9 hr hlocks hPB ls hl
  obtain ⟨hxq, hb, hml, hown, hts⟩ := id S9
  obtain ⟨hP, hK⟩ := hPB
  have hl : lv_has ls 3 [(0, .int (nI k)), (1, .int (nI n)), (2, .ref t9)] := hl
  refine lv_iload_n hxq hb dJ3_checkIndex_8e157_0 rfl (lv_at hl 0 rfl) ?_
  refine lv_if_lt (tgt := 9) hxq hb dJ3_checkIndex_8e157_1 (by decide) (fun c_1 => ?_) (fun c_1 => ?_)
  · have k_2 : k < 0 := (m_ltN (a := k) (b := 0) rfl rfl (by omega) (by omega)).mp c_1
    have k_2' : ¬ (0 ≤ k) := by omega
    exfalso; omega
  · have k_3 : ¬ (k < 0) := fun z => c_1 ((m_ltN (a := k) (b := 0) rfl rfl (by omega) (by omega)).mpr z)
    have k_3' : 0 ≤ k := by omega
    refine lv_iload_n hxq hb dJ3_checkIndex_8e157_4 rfl (lv_at hl 0 rfl) ?_
    refine lv_iload_n hxq hb dJ3_checkIndex_8e157_5 rfl (lv_at hl 1 rfl) ?_
    refine lv_icmp_lt (tgt := 16) hxq hb dJ3_checkIndex_8e157_6 (by decide) (fun c_4 => ?_) (fun c_4 => ?_)
    · have k_5 : k < n := (m_ltN (a := k) (b := n) rfl rfl (by omega) (by omega)).mp c_4
      have k_5' : ¬ (n ≤ k) := by omega
      refine lv_iload_n hxq hb dJ3_checkIndex_8e157_16 rfl (lv_at hl 0 rfl) ?_
      exact ro_iret hxq hb hr hlocks rfl dJ3_checkIndex_8e157_17
    · have k_6 : ¬ (k < n) := fun z => c_4 ((m_ltN (a := k) (b := n) rfl rfl (by omega) (by omega)).mpr z)
      have k_6' : n ≤ k := by omega
      exfalso; omega

set_option maxRecDepth 100000 in
set_option maxHeartbeats 1000000 in
theorem c_J0_checkIndex_df160 (l : Launch) (G : va_G) (cy : Nat → ClassId) (kS vS : Nat → Nat) (k n : Nat) (hk9 : k < n) (hn9 : n < 100000) : RO l yJ0_checkIndex_df160 wsJ0_checkIndex_df160 { frames := 1, cells := 0, slots := 0, locals := 22 } (PK G cy kS vS) [.int (nI k), .int (nI n)] (none) := by
  refine RO.ofW (cc := cJ0_checkIndex_df160) (maxL := 2) (ret := none) (by decide) rfl (Nat.le_of_ble_eq_true rfl) ?_
  intro p e s m below meth cq S9 hr hlocks hPB ls hl
  obtain ⟨hxq, hb, hml, hown, hts⟩ := id S9
  obtain ⟨hK, hSK⟩ := hPB
  have hl : lv_has ls 2 [(0, .int (nI k)), (1, .int (nI n))] := hl
  have hS : va_S (fun _ => False) s.heap s.heap [] := va_S.rf
  have hP : va_P G vwCl [] s.heap := fun k q h => by simp at h
  refine lv_iload_n hxq hb dJ0_checkIndex_df160_0 rfl (lv_at hl 0 rfl) ?_
  refine lv_iload_n hxq hb dJ0_checkIndex_df160_1 rfl (lv_at hl 1 rfl) ?_
  rcases hSK.2.2.2 with hz9 | ⟨t9, hz9⟩
  · refine va_gets hxq hb hz9 hS hown (hts (.fieldLink RJ0 1053 "jdk/internal/util/Preconditions" "SIOOBE_FORMATTER" "Ljava/util/function/BiFunction;") (by decide +kernel)) (fun _ h9 => h9) dJ0_checkIndex_df160_2 ?_
    refine c_roSi S9 (c_J3_checkIndex_n l G cy k n hk9 hn9) (va_cwS 3 hts gJ0_checkIndex_df160_J3_checkIndex_8e157 rfl rfl rfl (by decide +kernel) ⟨Nat.le_of_ble_eq_true rfl, Nat.le_of_ble_eq_true rfl⟩) PB.blind (PB.at hK (m_Ppart hP [] rfl)) rfl hl.1 rfl (Nat.le_of_ble_eq_true rfl) ⟨Nat.zero_le _, Nat.zero_le _⟩ dJ0_checkIndex_df160_5 ?_
    refine lv_pop hxq hb dJ0_checkIndex_df160_8 rfl ?_
    exact W.vret hxq hb hr (fun t ht _ => ⟨rfl, ht⟩) (fun q h => by cases h) dJ0_checkIndex_df160_9 hlocks
  · refine va_gets hxq hb hz9 hS hown (hts (.fieldLink RJ0 1053 "jdk/internal/util/Preconditions" "SIOOBE_FORMATTER" "Ljava/util/function/BiFunction;") (by decide +kernel)) (fun _ h9 => h9) dJ0_checkIndex_df160_2 ?_
    refine c_roSi S9 (c_J3_checkIndex_r l G cy t9 k n hk9 hn9) (va_cwS 3 hts gJ0_checkIndex_df160_J3_checkIndex_8e157 rfl rfl rfl (by decide +kernel) ⟨Nat.le_of_ble_eq_true rfl, Nat.le_of_ble_eq_true rfl⟩) PB.blind (PB.at hK (m_Ppart hP [] rfl)) rfl hl.1 rfl (Nat.le_of_ble_eq_true rfl) ⟨Nat.zero_le _, Nat.zero_le _⟩ dJ0_checkIndex_df160_5 ?_
    refine lv_pop hxq hb dJ0_checkIndex_df160_8 rfl ?_
    exact W.vret hxq hb hr (fun t ht _ => ⟨rfl, ht⟩) (fun q h => by cases h) dJ0_checkIndex_df160_9 hlocks

set_option maxRecDepth 100000 in
set_option maxHeartbeats 1000000 in
theorem c_J1_charAt_3b067 (l : Launch) (G : va_G) (cy : Nat → ClassId) (kS vS : Nat → Nat) (i k : Nat) (hi : i < 20) (hk : k < lenS.getD i 0) : RO l yJ1_charAt_3b067 wsJ1_charAt_3b067 { frames := 2, cells := 0, slots := 0, locals := 43 } (PK G cy kS vS) [.ref (vS i), .int (nI k)] (some (.int (chS i k))) := by
  refine RO.ofW (cc := cJ1_charAt_3b067) (maxL := 2) (ret := (some .char)) (by decide) rfl (Nat.le_of_ble_eq_true rfl) ?_
  intro p e s m below meth cq S9 hr hlocks hPB ls hl
  obtain ⟨hxq, hb, hml, hown, hts⟩ := id S9
  obtain ⟨hK, hSK⟩ := hPB
  have hl : lv_has ls 2 [(0, .ref (vS i)), (1, .int (nI k))] := hl
  have hS : va_S (fun _ => False) s.heap s.heap [] := va_S.rf
  have hP : va_P G vwCl [] s.heap := fun k q h => by simp at h
  have hl9 : lnS i < 10 := lnS_lt hi
  have hk8 : k < lnS i := hk
  have hc9 := (chS_ok i hi).2.2 k hk
  refine lv_iload_n hxq hb dJ1_charAt_3b067_0 rfl (lv_at hl 1 rfl) ?_
  refine lv_aload_n hxq hb dJ1_charAt_3b067_1 rfl (lv_at hl 0 rfl) ?_
  refine va_tlen hxq hb (hSK.1.1 i hi).2.2.2 hS (v := nI (lnS i)) rfl dJ1_charAt_3b067_2 ?_
  refine c_roSv S9 (c_J0_checkIndex_df160 l G cy kS vS k (lnS i) hk8 (by omega)) (va_cwS 2 hts gJ1_charAt_3b067_J0_checkIndex_df160 rfl rfl rfl (by decide +kernel) ⟨Nat.le_of_ble_eq_true rfl, Nat.le_of_ble_eq_true rfl⟩) PK.blind (PK.at hK hSK hS) rfl hl.1 rfl (Nat.le_of_ble_eq_true rfl) ⟨Nat.zero_le _, Nat.zero_le _⟩ dJ1_charAt_3b067_3 ?_
  refine lv_aload_n hxq hb dJ1_charAt_3b067_6 rfl (lv_at hl 0 rfl) ?_
  refine lv_iload_n hxq hb dJ1_charAt_3b067_7 rfl (lv_at hl 1 rfl) ?_
  refine va_tb hxq hb (hSK.1.1 i hi).2.2.2 hS (i := nI k) (v := .int (chS i k)) (vp_in_nI (show k < lenS.getD i 0 from by assumption) (Nat.lt_of_lt_of_le (lnS_lt hi) (by decide))) (by rw [nI_clamp (by omega)]; rfl) dJ1_charAt_3b067_8 ?_
  refine lv_sipush (v := 255) hxq hb dJ1_charAt_3b067_9 (by decide) ?_
  refine lv_iand hxq hb dJ1_charAt_3b067_12 ?_
  refine lv_i2c (v := chS i k) hxq hb dJ1_charAt_3b067_13 hc9.1 ?_
  exact ro_zret hxq hb hr hlocks (congrArg Value.int hc9.2.1) rfl dJ1_charAt_3b067_14

set_option maxRecDepth 100000 in
set_option maxHeartbeats 1000000 in
theorem c_J0_charAt_5068e (l : Launch) (G : va_G) (cy : Nat → ClassId) (kS vS : Nat → Nat) (i k : Nat) (hi : i < 20) (hk : k < lenS.getD i 0) : RO l yJ0_charAt_5068e wsJ0_charAt_5068e { frames := 3, cells := 0, slots := 0, locals := 64 } (PK G cy kS vS) [.ref (kS i), .int (nI k)] (some (.int (chS i k))) := by
  refine RO.ofW (cc := cJ0_charAt_5068e) (maxL := 2) (ret := (some .char)) (by decide) rfl (Nat.le_of_ble_eq_true rfl) ?_
  intro p e s m below meth cq S9 hr hlocks hPB ls hl
  obtain ⟨hxq, hb, hml, hown, hts⟩ := id S9
  obtain ⟨hK, hSK⟩ := hPB
  have hl : lv_has ls 2 [(0, .ref (kS i)), (1, .int (nI k))] := hl
  have hS : va_S (fun _ => False) s.heap s.heap [] := va_S.rf
  have hP : va_P G vwCl [] s.heap := fun k q h => by simp at h
  have hl9 : lnS i < 10 := lnS_lt hi
  have hk8 : k < lnS i := hk
  have hc9 := (chS_ok i hi).2.2 k hk
  refine lv_aload_n hxq hb dJ0_charAt_5068e_0 rfl (lv_at hl 0 rfl) ?_
  refine c_roVi S9 (c_J0_isLatin1_aae02 l G cy kS vS i hi) (cwV 0 hts gJ0_charAt_5068e_J0_isLatin1_aae02 rfl rfl rfl (by decide +kernel) ⟨Nat.le_of_ble_eq_true rfl, Nat.le_of_ble_eq_true rfl⟩) PK.blind (litS.recv hSK.1 (by first | assumption | decide) hS) (PK.at hK hSK hS) rfl hl.1 rfl (Nat.le_of_ble_eq_true rfl) ⟨Nat.zero_le _, Nat.zero_le _⟩ dJ0_charAt_5068e_1 ?_
  refine lv_if_eq (tgt := 16) hxq hb dJ0_charAt_5068e_4 (by decide) (fun c_1 => ?_) (fun c_1 => ?_)
  · exact absurd c_1 (by decide)
  · refine lv_aload_n hxq hb dJ0_charAt_5068e_7 rfl (lv_at hl 0 rfl) ?_
    refine vk_getf hxq hb (hSK.1.1 i hi).2.2.1 hS hown (hts (.fieldLink RJ0 9 "java/lang/String" "value" "[B") (by decide +kernel)) (fun _ h9 => h9) dJ0_charAt_5068e_8 ?_
    refine lv_iload_n hxq hb dJ0_charAt_5068e_11 rfl (lv_at hl 1 rfl) ?_
    refine c_roSi S9 (c_J1_charAt_3b067 l G cy kS vS i k hi hk) (va_cwS 2 hts gJ0_charAt_5068e_J1_charAt_3b067 rfl rfl rfl (by decide +kernel) ⟨Nat.le_of_ble_eq_true rfl, Nat.le_of_ble_eq_true rfl⟩) PK.blind (PK.at hK hSK hS) rfl hl.1 rfl (Nat.le_of_ble_eq_true rfl) ⟨Nat.zero_le _, Nat.zero_le _⟩ dJ0_charAt_5068e_12 ?_
    exact ro_zret hxq hb hr hlocks (congrArg Value.int hc9.2.1) rfl dJ0_charAt_5068e_15
