/-! the law's words, row by row -/
def wsL_tab : List (List Cond) := [wsL_law0_r1, wsL_law0_r2, wsL_law0_r3, wsL_law0_r4, wsL_law0_r5, wsL_law0_r6, wsL_law0_r7, wsL_law0_r8, wsL_law0_r9, wsL_law0_r10, wsL_law0_r11, wsL_law0_r12, wsL_law0_r13, wsL_law0_r14, wsL_law0_r15, wsL_law0_r16, wsL_law0_r17, wsL_law0_r18, wsL_law0_r19, wsL_law0_r20, wsL_law0_r21, wsL_law0_r22, wsL_law0_r23, wsL_law0_r24, wsL_law0_r25, wsL_law0_r26, wsL_law0_r27, wsL_law0_r28, wsL_law0_r29, wsL_law0_r30, wsL_law0_r31, wsL_law0_r32, wsL_law0_r33, wsL_law0_r34, wsL_law0_r35, wsL_law0_r36, wsL_law0_r37, wsL_law0_r38, wsL_law0_r39, wsL_law0_r40, wsL_law0_r41, wsL_law0_r42, wsL_law0_r43, wsL_law0_r44, wsL_law0_r45, wsL_law0_r46, wsL_law0_r47, wsL_law0_r48, wsL_law0_r49, wsL_law0_r50, wsL_law0_r51, wsL_law0_r52, wsL_law0_r53, wsX70, wsX50, wsX30, wsX40, wsJ40, wsX00, wsX10, wsX20, wsX60, wsJ00, wsJx7c7330, wsJx000600]
theorem wsL_tab_fl : wsL_law0 = wsL_tab.flatten := by
  simp only [wsL_law0, wsL_tab, List.flatten_cons, List.flatten_nil, List.append_assoc, List.append_nil]
theorem law0_in : ∀ w ∈ wsL_law0, w ∈ wsL_law := fun w h => List.mem_append_left _ (List.mem_append_left _ (List.mem_append_left _ (List.mem_append_left _ (List.mem_append_left _ (List.mem_append_left _ (List.mem_append_left _ (List.mem_append_left _ (h))))))))
theorem wsL_tab_in : ∀ t ∈ wsL_tab, ∀ w ∈ t, w ∈ wsL_law := by
  intro t ht w hw
  refine law0_in w ?_
  rw [wsL_tab_fl]
  exact List.mem_flatten.mpr ⟨t, ht, hw⟩
/-- a word of the law by its row and place -/
theorem big_at (i j : Nat) {w : Cond} (h : (wsL_tab[i]?).bind (fun l => l[j]?) = some w) : w ∈ wsL_law := by
  obtain ⟨l, hl, hi⟩ := Option.bind_eq_some_iff.mp h
  exact wsL_tab_in l (List.mem_of_getElem? hl) w (List.mem_of_getElem? hi)
theorem big_row (i : Nat) {l : List Cond} (h : wsL_tab[i]? = some l) : ∀ w ∈ l, w ∈ wsL_law := wsL_tab_in l (List.mem_of_getElem? h)
theorem big_sub {ws : List Cond} (ps : List (Nat × Nat)) (hp : ws = ps.filterMap (fun q => (wsL_tab[q.1]?).bind (fun l => l[q.2]?))) : ∀ w ∈ ws, w ∈ wsL_law := by
  intro w hw
  rw [hp] at hw
  obtain ⟨q, -, hq⟩ := List.mem_filterMap.mp hw
  exact big_at q.1 q.2 hq
theorem big_app {a b : List Cond} (h1 : ∀ w ∈ a, w ∈ wsL_law) (h2 : ∀ w ∈ b, w ∈ wsL_law) : ∀ w ∈ a ++ b, w ∈ wsL_law := fun w h => (List.mem_append.mp h).elim (h1 w) (h2 w)
theorem big_cons {a : Cond} {b : List Cond} (h1 : a ∈ wsL_law) (h2 : ∀ w ∈ b, w ∈ wsL_law) : ∀ w ∈ a :: b, w ∈ wsL_law := List.forall_mem_cons.mpr ⟨h1, h2⟩
theorem big_nil : ∀ w ∈ ([] : List Cond), w ∈ wsL_law := fun _ h => absurd h List.not_mem_nil
theorem big_f0 : ∀ w ∈ (vx_atM "java/lang/ArithmeticException" ["java/lang/RuntimeException", "java/lang/Exception"]).filter goodWord, w ∈ wsL_law := fun w h => List.mem_append_left _ (List.mem_append_left _ (List.mem_append_left _ (List.mem_append_left _ (List.mem_append_left _ (List.mem_append_left _ (List.mem_append_left _ ((List.mem_append_right _ h))))))))
theorem big_f1 : ∀ w ∈ (vx_atM "java/lang/ArrayIndexOutOfBoundsException" ["java/lang/IndexOutOfBoundsException", "java/lang/RuntimeException", "java/lang/Exception"]).filter goodWord, w ∈ wsL_law := fun w h => List.mem_append_left _ (List.mem_append_left _ (List.mem_append_left _ (List.mem_append_left _ (List.mem_append_left _ (List.mem_append_left _ ((List.mem_append_right _ h)))))))
theorem big_f2 : ∀ w ∈ (vx_atS RX7 332 "java/lang/IndexOutOfBoundsException" ["java/lang/RuntimeException", "java/lang/Exception"]).filter goodWord, w ∈ wsL_law := fun w h => List.mem_append_left _ (List.mem_append_left _ (List.mem_append_left _ (List.mem_append_left _ (List.mem_append_left _ ((List.mem_append_right _ h))))))
theorem big_f3 : ∀ w ∈ (vx_atS RX7 231 "java/lang/IllegalArgumentException" ["java/lang/RuntimeException", "java/lang/Exception"]).filter goodWord, w ∈ wsL_law := fun w h => List.mem_append_left _ (List.mem_append_left _ (List.mem_append_left _ (List.mem_append_left _ ((List.mem_append_right _ h)))))
theorem big_f4 : ∀ w ∈ (vx_atS RX7 218 "java/lang/IllegalStateException" ["java/lang/RuntimeException", "java/lang/Exception"]).filter goodWord, w ∈ wsL_law := fun w h => List.mem_append_left _ (List.mem_append_left _ (List.mem_append_left _ ((List.mem_append_right _ h))))
theorem big_f5 : ∀ w ∈ (nsW RX7 199).filter goodWord, w ∈ wsL_law := fun w h => List.mem_append_left _ (List.mem_append_left _ ((List.mem_append_right _ h)))
theorem big_f6 : ∀ w ∈ (vx_atS RX7 396 "java/lang/UnsupportedOperationException" ["java/lang/RuntimeException", "java/lang/Exception"]).filter goodWord, w ∈ wsL_law := fun w h => List.mem_append_left _ ((List.mem_append_right _ h))
theorem big_f7 : ∀ w ∈ (vx_atS RX7 297 "java/lang/ArithmeticException" ["java/lang/RuntimeException", "java/lang/Exception"]).filter goodWord, w ∈ wsL_law := fun w h => (List.mem_append_right _ h)
theorem wsL_good : wsL_law.all goodWord = true := by
  unfold wsL_law
  simp only [List.all_append, Bool.and_eq_true]
  refine ⟨⟨⟨⟨⟨⟨⟨⟨?_, ?_⟩, ?_⟩, ?_⟩, ?_⟩, ?_⟩, ?_⟩, ?_⟩, ?_⟩
  · rw [wsL_tab_fl]
    decide +kernel
  · exact List.all_eq_true.mpr (fun w h => (List.mem_filter.mp h).2)
  · exact List.all_eq_true.mpr (fun w h => (List.mem_filter.mp h).2)
  · exact List.all_eq_true.mpr (fun w h => (List.mem_filter.mp h).2)
  · exact List.all_eq_true.mpr (fun w h => (List.mem_filter.mp h).2)
  · exact List.all_eq_true.mpr (fun w h => (List.mem_filter.mp h).2)
  · exact List.all_eq_true.mpr (fun w h => (List.mem_filter.mp h).2)
  · exact List.all_eq_true.mpr (fun w h => (List.mem_filter.mp h).2)
  · exact List.all_eq_true.mpr (fun w h => (List.mem_filter.mp h).2)
theorem gBB : GoodIn wsL_law wsL_law := goodIn_sub (fun _ h => h) wsL_good
