/-! the law's words stand in the tables, 0 -/
set_option maxRecDepth 20000 in
theorem wsL_b0 : ∀ w ∈ (wsL_law0_r1), w ∈ lw_tbl := by decide +kernel
set_option maxRecDepth 20000 in
theorem wsL_b1 : ∀ w ∈ (wsL_law0_r2), w ∈ lw_tbl := by decide +kernel
set_option maxRecDepth 20000 in
theorem wsL_b2 : ∀ w ∈ (wsL_law0_r3), w ∈ lw_tbl := by decide +kernel
set_option maxRecDepth 20000 in
theorem wsL_b3 : ∀ w ∈ (wsL_law0_r4), w ∈ lw_tbl := by decide +kernel
set_option maxRecDepth 20000 in
theorem wsL_b4 : ∀ w ∈ (wsL_law0_r5), w ∈ lw_tbl := by decide +kernel
set_option maxRecDepth 20000 in
theorem wsL_b5 : ∀ w ∈ (wsL_law0_r6), w ∈ lw_tbl := by decide +kernel
set_option maxRecDepth 20000 in
theorem wsL_b6 : ∀ w ∈ (wsL_law0_r7), w ∈ lw_tbl := by decide +kernel
set_option maxRecDepth 20000 in
theorem wsL_b7 : ∀ w ∈ (wsL_law0_r8), w ∈ lw_tbl := by decide +kernel
set_option maxRecDepth 20000 in
theorem wsL_b8 : ∀ w ∈ (wsL_law0_r9), w ∈ lw_tbl := by decide +kernel
set_option maxRecDepth 20000 in
theorem wsL_b9 : ∀ w ∈ (wsL_law0_r10), w ∈ lw_tbl := by decide +kernel
set_option maxRecDepth 20000 in
theorem wsL_b10 : ∀ w ∈ (wsL_law0_r11), w ∈ lw_tbl := by decide +kernel
set_option maxRecDepth 20000 in
theorem wsL_b11 : ∀ w ∈ (wsL_law0_r12), w ∈ lw_tbl := by decide +kernel
set_option maxRecDepth 20000 in
theorem wsL_b12 : ∀ w ∈ (wsL_law0_r13), w ∈ lw_tbl := by decide +kernel
set_option maxRecDepth 20000 in
theorem wsL_b13 : ∀ w ∈ (wsL_law0_r14), w ∈ lw_tbl := by decide +kernel
set_option maxRecDepth 20000 in
theorem wsL_b14 : ∀ w ∈ (wsL_law0_r15), w ∈ lw_tbl := by decide +kernel
set_option maxRecDepth 20000 in
theorem wsL_b15 : ∀ w ∈ (wsL_law0_r16), w ∈ lw_tbl := by decide +kernel
set_option maxRecDepth 20000 in
theorem wsL_b16 : ∀ w ∈ (wsL_law0_r17), w ∈ lw_tbl := by decide +kernel
set_option maxRecDepth 20000 in
theorem wsL_b17 : ∀ w ∈ (wsL_law0_r18), w ∈ lw_tbl := by decide +kernel
set_option maxRecDepth 20000 in
theorem wsL_b18 : ∀ w ∈ (wsL_law0_r19), w ∈ lw_tbl := by decide +kernel
set_option maxRecDepth 20000 in
theorem wsL_b19 : ∀ w ∈ (wsL_law0_r20), w ∈ lw_tbl := by decide +kernel
