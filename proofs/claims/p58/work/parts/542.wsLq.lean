/-! the law's words: the small lists, and all -/
set_option maxRecDepth 20000 in
theorem wsL_s0 : ∀ w ∈ (wsX70), w ∈ lw_tbl := by decide +kernel
set_option maxRecDepth 20000 in
theorem wsL_s1 : ∀ w ∈ (wsX50), w ∈ lw_tbl := by decide +kernel
set_option maxRecDepth 20000 in
theorem wsL_s2 : ∀ w ∈ (wsX30), w ∈ lw_tbl := by decide +kernel
set_option maxRecDepth 20000 in
theorem wsL_s3 : ∀ w ∈ (wsX40), w ∈ lw_tbl := by decide +kernel
set_option maxRecDepth 20000 in
theorem wsL_s4 : ∀ w ∈ (wsJ40), w ∈ lw_tbl := by decide +kernel
set_option maxRecDepth 20000 in
theorem wsL_s5 : ∀ w ∈ (wsX00), w ∈ lw_tbl := by decide +kernel
set_option maxRecDepth 20000 in
theorem wsL_s6 : ∀ w ∈ (wsX10), w ∈ lw_tbl := by decide +kernel
set_option maxRecDepth 20000 in
theorem wsL_s7 : ∀ w ∈ (wsX20), w ∈ lw_tbl := by decide +kernel
set_option maxRecDepth 20000 in
theorem wsL_s8 : ∀ w ∈ (wsX60), w ∈ lw_tbl := by decide +kernel
set_option maxRecDepth 20000 in
theorem wsL_s9 : ∀ w ∈ (wsJ00), w ∈ lw_tbl := by decide +kernel
set_option maxRecDepth 20000 in
theorem wsL_s10 : ∀ w ∈ (wsJx7c7330), w ∈ lw_tbl := by decide +kernel
set_option maxRecDepth 20000 in
theorem wsL_s11 : ∀ w ∈ (wsJx000600), w ∈ lw_tbl := by decide +kernel
set_option maxRecDepth 20000 in
theorem wsL_s12 : ∀ w ∈ ([] : List Cond), w ∈ lw_tbl := by decide +kernel
set_option maxRecDepth 20000 in
theorem wsL_law0_ok {args : Array Value} {s : State} (hts : ∀ w ∈ lw_tbl, w.before args s = true) : ∀ w ∈ wsL_law0, w.before args s = true := (fun w h => (List.mem_append.mp h).elim ((fun w h => (List.mem_append.mp h).elim ((fun w h => (List.mem_append.mp h).elim ((fun w h => (List.mem_append.mp h).elim ((fun w h => (List.mem_append.mp h).elim ((fun w h => (List.mem_append.mp h).elim ((fun w h => (List.mem_append.mp h).elim ((fun w h => (List.mem_append.mp h).elim ((fun w h => (List.mem_append.mp h).elim ((fun w h => (List.mem_append.mp h).elim ((fun w h => (List.mem_append.mp h).elim ((fun w h => (List.mem_append.mp h).elim ((fun w h => (List.mem_append.mp h).elim ((fun w h => (List.mem_append.mp h).elim ((wsL_law0_r1_ok hts) w) ((fun w h => (List.mem_append.mp h).elim ((wsL_law0_r2_ok hts) w) ((fun w h => (List.mem_append.mp h).elim ((wsL_law0_r3_ok hts) w) ((fun w h => (List.mem_append.mp h).elim ((wsL_law0_r4_ok hts) w) ((fun w h => (List.mem_append.mp h).elim ((wsL_law0_r5_ok hts) w) ((fun w h => (List.mem_append.mp h).elim ((wsL_law0_r6_ok hts) w) ((fun w h => (List.mem_append.mp h).elim ((wsL_law0_r7_ok hts) w) ((fun w h => (List.mem_append.mp h).elim ((wsL_law0_r8_ok hts) w) ((fun w h => (List.mem_append.mp h).elim ((wsL_law0_r9_ok hts) w) ((fun w h => (List.mem_append.mp h).elim ((wsL_law0_r10_ok hts) w) ((fun w h => (List.mem_append.mp h).elim ((wsL_law0_r11_ok hts) w) ((fun w h => (List.mem_append.mp h).elim ((wsL_law0_r12_ok hts) w) ((fun w h => (List.mem_append.mp h).elim ((wsL_law0_r13_ok hts) w) ((fun w h => (List.mem_append.mp h).elim ((wsL_law0_r14_ok hts) w) ((fun w h => (List.mem_append.mp h).elim ((wsL_law0_r15_ok hts) w) ((fun w h => (List.mem_append.mp h).elim ((wsL_law0_r16_ok hts) w) ((fun w h => (List.mem_append.mp h).elim ((wsL_law0_r17_ok hts) w) ((fun w h => (List.mem_append.mp h).elim ((wsL_law0_r18_ok hts) w) ((fun w h => (List.mem_append.mp h).elim ((wsL_law0_r19_ok hts) w) ((fun w h => (List.mem_append.mp h).elim ((wsL_law0_r20_ok hts) w) ((fun w h => (List.mem_append.mp h).elim ((wsL_law0_r21_ok hts) w) ((fun w h => (List.mem_append.mp h).elim ((wsL_law0_r22_ok hts) w) ((fun w h => (List.mem_append.mp h).elim ((wsL_law0_r23_ok hts) w) ((fun w h => (List.mem_append.mp h).elim ((wsL_law0_r24_ok hts) w) ((fun w h => (List.mem_append.mp h).elim ((wsL_law0_r25_ok hts) w) ((fun w h => (List.mem_append.mp h).elim ((wsL_law0_r26_ok hts) w) ((fun w h => (List.mem_append.mp h).elim ((wsL_law0_r27_ok hts) w) ((fun w h => (List.mem_append.mp h).elim ((wsL_law0_r28_ok hts) w) ((fun w h => (List.mem_append.mp h).elim ((wsL_law0_r29_ok hts) w) ((fun w h => (List.mem_append.mp h).elim ((wsL_law0_r30_ok hts) w) ((fun w h => (List.mem_append.mp h).elim ((wsL_law0_r31_ok hts) w) ((fun w h => (List.mem_append.mp h).elim ((wsL_law0_r32_ok hts) w) ((fun w h => (List.mem_append.mp h).elim ((wsL_law0_r33_ok hts) w) ((fun w h => (List.mem_append.mp h).elim ((wsL_law0_r34_ok hts) w) ((fun w h => (List.mem_append.mp h).elim ((wsL_law0_r35_ok hts) w) ((fun w h => (List.mem_append.mp h).elim ((wsL_law0_r36_ok hts) w) ((fun w h => (List.mem_append.mp h).elim ((wsL_law0_r37_ok hts) w) ((fun w h => (List.mem_append.mp h).elim ((wsL_law0_r38_ok hts) w) ((fun w h => (List.mem_append.mp h).elim ((wsL_law0_r39_ok hts) w) ((fun w h => (List.mem_append.mp h).elim ((wsL_law0_r40_ok hts) w) ((fun w h => (List.mem_append.mp h).elim ((wsL_law0_r41_ok hts) w) ((fun w h => (List.mem_append.mp h).elim ((wsL_law0_r42_ok hts) w) ((fun w h => (List.mem_append.mp h).elim ((wsL_law0_r43_ok hts) w) ((fun w h => (List.mem_append.mp h).elim ((wsL_law0_r44_ok hts) w) ((fun w h => (List.mem_append.mp h).elim ((wsL_law0_r45_ok hts) w) ((fun w h => (List.mem_append.mp h).elim ((wsL_law0_r46_ok hts) w) ((fun w h => (List.mem_append.mp h).elim ((wsL_law0_r47_ok hts) w) ((fun w h => (List.mem_append.mp h).elim ((wsL_law0_r48_ok hts) w) ((fun w h => (List.mem_append.mp h).elim ((wsL_law0_r49_ok hts) w) ((fun w h => (List.mem_append.mp h).elim ((wsL_law0_r50_ok hts) w) ((fun w h => (List.mem_append.mp h).elim ((wsL_law0_r51_ok hts) w) ((fun w h => (List.mem_append.mp h).elim ((wsL_law0_r52_ok hts) w) ((wsL_law0_r53_ok hts) w)) w)) w)) w)) w)) w)) w)) w)) w)) w)) w)) w)) w)) w)) w)) w)) w)) w)) w)) w)) w)) w)) w)) w)) w)) w)) w)) w)) w)) w)) w)) w)) w)) w)) w)) w)) w)) w)) w)) w)) w)) w)) w)) w)) w)) w)) w)) w)) w)) w)) w)) w)) w) (((fun w h => hts w (wsL_s0 w h))) w)) w) (((fun w h => hts w (wsL_s1 w h))) w)) w) (((fun w h => hts w (wsL_s2 w h))) w)) w) (((fun w h => hts w (wsL_s3 w h))) w)) w) (((fun w h => hts w (wsL_s4 w h))) w)) w) (((fun w h => hts w (wsL_s5 w h))) w)) w) (((fun w h => hts w (wsL_s6 w h))) w)) w) (((fun w h => hts w (wsL_s7 w h))) w)) w) (((fun w h => hts w (wsL_s8 w h))) w)) w) (((fun w h => hts w (wsL_s9 w h))) w)) w) (((fun w h => hts w (wsL_s10 w h))) w)) w) (((fun w h => hts w (wsL_s11 w h))) w)) w) (((fun w h => hts w (wsL_s12 w h))) w))
set_option maxRecDepth 20000 in
theorem wsL_law_x0 : ∀ w ∈ (vx_atM "java/lang/ArithmeticException" ["java/lang/RuntimeException", "java/lang/Exception"]).filter goodWord, w ∈ lw_tbl := by decide +kernel
set_option maxRecDepth 20000 in
theorem wsL_law_x1 : ∀ w ∈ (vx_atM "java/lang/ArrayIndexOutOfBoundsException" ["java/lang/IndexOutOfBoundsException", "java/lang/RuntimeException", "java/lang/Exception"]).filter goodWord, w ∈ lw_tbl := by decide +kernel
set_option maxRecDepth 20000 in
theorem wsL_law_x2 : ∀ w ∈ (vx_atS RX7 332 "java/lang/IndexOutOfBoundsException" ["java/lang/RuntimeException", "java/lang/Exception"]).filter goodWord, w ∈ lw_tbl := by decide +kernel
set_option maxRecDepth 20000 in
theorem wsL_law_x3 : ∀ w ∈ (vx_atS RX7 231 "java/lang/IllegalArgumentException" ["java/lang/RuntimeException", "java/lang/Exception"]).filter goodWord, w ∈ lw_tbl := by decide +kernel
set_option maxRecDepth 20000 in
theorem wsL_law_x4 : ∀ w ∈ (vx_atS RX7 218 "java/lang/IllegalStateException" ["java/lang/RuntimeException", "java/lang/Exception"]).filter goodWord, w ∈ lw_tbl := by decide +kernel
set_option maxRecDepth 20000 in
theorem wsL_law_x5 : ∀ w ∈ (nsW RX7 199).filter goodWord, w ∈ lw_tbl := by decide +kernel
set_option maxRecDepth 20000 in
theorem wsL_law_x6 : ∀ w ∈ (vx_atS RX7 396 "java/lang/UnsupportedOperationException" ["java/lang/RuntimeException", "java/lang/Exception"]).filter goodWord, w ∈ lw_tbl := by decide +kernel
set_option maxRecDepth 20000 in
theorem wsL_law_x7 : ∀ w ∈ (vx_atS RX7 297 "java/lang/ArithmeticException" ["java/lang/RuntimeException", "java/lang/Exception"]).filter goodWord, w ∈ lw_tbl := by decide +kernel
theorem wsL_law_ok {args : Array Value} {s : State} (hts : ∀ w ∈ lw_tbl, w.before args s = true) : ∀ w ∈ wsL_law, w.before args s = true := (fun w h => (List.mem_append.mp h).elim ((fun w h => (List.mem_append.mp h).elim ((fun w h => (List.mem_append.mp h).elim ((fun w h => (List.mem_append.mp h).elim ((fun w h => (List.mem_append.mp h).elim ((fun w h => (List.mem_append.mp h).elim ((fun w h => (List.mem_append.mp h).elim ((fun w h => (List.mem_append.mp h).elim ((wsL_law0_ok hts) w) (((fun w h => hts w (wsL_law_x0 w h))) w)) w) (((fun w h => hts w (wsL_law_x1 w h))) w)) w) (((fun w h => hts w (wsL_law_x2 w h))) w)) w) (((fun w h => hts w (wsL_law_x3 w h))) w)) w) (((fun w h => hts w (wsL_law_x4 w h))) w)) w) (((fun w h => hts w (wsL_law_x5 w h))) w)) w) (((fun w h => hts w (wsL_law_x6 w h))) w)) w) (((fun w h => hts w (wsL_law_x7 w h))) w))
