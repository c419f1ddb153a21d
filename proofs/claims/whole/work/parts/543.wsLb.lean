/-! the law's words stand in the tables, 2 -/
set_option maxRecDepth 20000 in
theorem wsL_b40 : ∀ w ∈ (wsL_law0_r41), w ∈ lw_tbl := by decide +kernel
set_option maxRecDepth 20000 in
theorem wsL_b41 : ∀ w ∈ (wsL_law0_r42), w ∈ lw_tbl := by decide +kernel
set_option maxRecDepth 20000 in
theorem wsL_b42 : ∀ w ∈ (wsL_law0_r43), w ∈ lw_tbl := by decide +kernel
set_option maxRecDepth 20000 in
theorem wsL_b43 : ∀ w ∈ (wsL_law0_r44), w ∈ lw_tbl := by decide +kernel
set_option maxRecDepth 20000 in
theorem wsL_b44 : ∀ w ∈ (wsL_law0_r45), w ∈ lw_tbl := by decide +kernel
set_option maxRecDepth 20000 in
theorem wsL_b45 : ∀ w ∈ (wsL_law0_r46), w ∈ lw_tbl := by decide +kernel
set_option maxRecDepth 20000 in
theorem wsL_b46 : ∀ w ∈ (wsL_law0_r47), w ∈ lw_tbl := by decide +kernel
set_option maxRecDepth 20000 in
theorem wsL_b47 : ∀ w ∈ (wsL_law0_r48), w ∈ lw_tbl := by decide +kernel
set_option maxRecDepth 20000 in
theorem wsL_b48 : ∀ w ∈ (wsL_law0_r49), w ∈ lw_tbl := by decide +kernel
set_option maxRecDepth 20000 in
theorem wsL_b49 : ∀ w ∈ (wsL_law0_r50), w ∈ lw_tbl := by decide +kernel
set_option maxRecDepth 20000 in
theorem wsL_b50 : ∀ w ∈ (wsL_law0_r51), w ∈ lw_tbl := by decide +kernel
set_option maxRecDepth 20000 in
theorem wsL_b51 : ∀ w ∈ (wsL_law0_r52), w ∈ lw_tbl := by decide +kernel
set_option maxRecDepth 20000 in
theorem wsL_b52 : ∀ w ∈ (wsL_law0_r53), w ∈ lw_tbl := by decide +kernel
set_option maxRecDepth 20000 in
theorem wsL_b53 : ∀ w ∈ (wsL_law0_r54), w ∈ lw_tbl := by decide +kernel
set_option maxRecDepth 20000 in
theorem wsL_b54 : ∀ w ∈ (wsL_law0_r55), w ∈ lw_tbl := by decide +kernel
set_option maxRecDepth 20000 in
theorem wsL_b55 : ∀ w ∈ (wsL_law0_r56), w ∈ lw_tbl := by decide +kernel
set_option maxRecDepth 20000 in
theorem wsL_b56 : ∀ w ∈ (wsL_law0_r57), w ∈ lw_tbl := by decide +kernel
set_option maxRecDepth 20000 in
theorem wsL_b57 : ∀ w ∈ (wsL_law0_r58), w ∈ lw_tbl := by decide +kernel
set_option maxRecDepth 20000 in
theorem wsL_b58 : ∀ w ∈ (wsL_law0_r59), w ∈ lw_tbl := by decide +kernel
set_option maxRecDepth 20000 in
theorem wsL_b59 : ∀ w ∈ (wsL_law0_r60), w ∈ lw_tbl := by decide +kernel
