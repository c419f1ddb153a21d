/-! the law's words stand in the tables, 1 -/
set_option maxRecDepth 20000 in
theorem wsL_b20 : ∀ w ∈ (wsL_law0_r21), w ∈ lw_tbl := by decide +kernel
set_option maxRecDepth 20000 in
theorem wsL_b21 : ∀ w ∈ (wsL_law0_r22), w ∈ lw_tbl := by decide +kernel
set_option maxRecDepth 20000 in
theorem wsL_b22 : ∀ w ∈ (wsL_law0_r23), w ∈ lw_tbl := by decide +kernel
set_option maxRecDepth 20000 in
theorem wsL_b23 : ∀ w ∈ (wsL_law0_r24), w ∈ lw_tbl := by decide +kernel
set_option maxRecDepth 20000 in
theorem wsL_b24 : ∀ w ∈ (wsL_law0_r25), w ∈ lw_tbl := by decide +kernel
set_option maxRecDepth 20000 in
theorem wsL_b25 : ∀ w ∈ (wsL_law0_r26), w ∈ lw_tbl := by decide +kernel
set_option maxRecDepth 20000 in
theorem wsL_b26 : ∀ w ∈ (wsL_law0_r27), w ∈ lw_tbl := by decide +kernel
set_option maxRecDepth 20000 in
theorem wsL_b27 : ∀ w ∈ (wsL_law0_r28), w ∈ lw_tbl := by decide +kernel
set_option maxRecDepth 20000 in
theorem wsL_b28 : ∀ w ∈ (wsL_law0_r29), w ∈ lw_tbl := by decide +kernel
set_option maxRecDepth 20000 in
theorem wsL_b29 : ∀ w ∈ (wsL_law0_r30), w ∈ lw_tbl := by decide +kernel
set_option maxRecDepth 20000 in
theorem wsL_b30 : ∀ w ∈ (wsL_law0_r31), w ∈ lw_tbl := by decide +kernel
set_option maxRecDepth 20000 in
theorem wsL_b31 : ∀ w ∈ (wsL_law0_r32), w ∈ lw_tbl := by decide +kernel
set_option maxRecDepth 20000 in
theorem wsL_b32 : ∀ w ∈ (wsL_law0_r33), w ∈ lw_tbl := by decide +kernel
set_option maxRecDepth 20000 in
theorem wsL_b33 : ∀ w ∈ (wsL_law0_r34), w ∈ lw_tbl := by decide +kernel
set_option maxRecDepth 20000 in
theorem wsL_b34 : ∀ w ∈ (wsL_law0_r35), w ∈ lw_tbl := by decide +kernel
set_option maxRecDepth 20000 in
theorem wsL_b35 : ∀ w ∈ (wsL_law0_r36), w ∈ lw_tbl := by decide +kernel
set_option maxRecDepth 20000 in
theorem wsL_b36 : ∀ w ∈ (wsL_law0_r37), w ∈ lw_tbl := by decide +kernel
set_option maxRecDepth 20000 in
theorem wsL_b37 : ∀ w ∈ (wsL_law0_r38), w ∈ lw_tbl := by decide +kernel
set_option maxRecDepth 20000 in
theorem wsL_b38 : ∀ w ∈ (wsL_law0_r39), w ∈ lw_tbl := by decide +kernel
set_option maxRecDepth 20000 in
theorem wsL_b39 : ∀ w ∈ (wsL_law0_r40), w ∈ lw_tbl := by decide +kernel
