/-! the law's words stand in the tables, 3 -/
set_option maxRecDepth 20000 in
theorem wsL_b60 : ∀ w ∈ (wsL_law0_r61), w ∈ lw_tbl := by decide +kernel
set_option maxRecDepth 20000 in
theorem wsL_b61 : ∀ w ∈ (wsL_law0_r62), w ∈ lw_tbl := by decide +kernel
set_option maxRecDepth 20000 in
theorem wsL_b62 : ∀ w ∈ (wsL_law0_r63), w ∈ lw_tbl := by decide +kernel
set_option maxRecDepth 20000 in
theorem wsL_b63 : ∀ w ∈ (wsL_law0_r64), w ∈ lw_tbl := by decide +kernel
set_option maxRecDepth 20000 in
theorem wsL_b64 : ∀ w ∈ (wsL_law0_r65), w ∈ lw_tbl := by decide +kernel
set_option maxRecDepth 20000 in
theorem wsL_b65 : ∀ w ∈ (wsL_law0_r66), w ∈ lw_tbl := by decide +kernel
set_option maxRecDepth 20000 in
theorem wsL_b66 : ∀ w ∈ (wsX70), w ∈ lw_tbl := by decide +kernel
set_option maxRecDepth 20000 in
theorem wsL_b67 : ∀ w ∈ (wsX80), w ∈ lw_tbl := by decide +kernel
set_option maxRecDepth 20000 in
theorem wsL_b68 : ∀ w ∈ (wsX50), w ∈ lw_tbl := by decide +kernel
set_option maxRecDepth 20000 in
theorem wsL_b69 : ∀ w ∈ (wsX30), w ∈ lw_tbl := by decide +kernel
set_option maxRecDepth 20000 in
theorem wsL_b70 : ∀ w ∈ (wsX40), w ∈ lw_tbl := by decide +kernel
set_option maxRecDepth 20000 in
theorem wsL_b71 : ∀ w ∈ (wsJ40), w ∈ lw_tbl := by decide +kernel
set_option maxRecDepth 20000 in
theorem wsL_b72 : ∀ w ∈ (wsX00), w ∈ lw_tbl := by decide +kernel
set_option maxRecDepth 20000 in
theorem wsL_b73 : ∀ w ∈ (wsX10), w ∈ lw_tbl := by decide +kernel
set_option maxRecDepth 20000 in
theorem wsL_b74 : ∀ w ∈ (wsX20), w ∈ lw_tbl := by decide +kernel
set_option maxRecDepth 20000 in
theorem wsL_b75 : ∀ w ∈ (wsX60), w ∈ lw_tbl := by decide +kernel
set_option maxRecDepth 20000 in
theorem wsL_b76 : ∀ w ∈ (wsJx7c7330), w ∈ lw_tbl := by decide +kernel
set_option maxRecDepth 20000 in
theorem wsL_b77 : ∀ w ∈ (wsJx000600), w ∈ lw_tbl := by decide +kernel
set_option maxRecDepth 20000 in
theorem wsL_b78 : ∀ w ∈ (wsJ00), w ∈ lw_tbl := by decide +kernel
set_option maxRecDepth 20000 in
theorem wsL_b79 : ∀ w ∈ ([] : List Cond), w ∈ lw_tbl := by decide +kernel
set_option maxRecDepth 20000 in
theorem wsL_law_in0 : ∀ w ∈ wsL_law0, w ∈ lw_tbl := (fun w h => (List.mem_append.mp h).elim ((fun w h => (List.mem_append.mp h).elim ((fun w h => (List.mem_append.mp h).elim ((fun w h => (List.mem_append.mp h).elim ((fun w h => (List.mem_append.mp h).elim ((fun w h => (List.mem_append.mp h).elim ((fun w h => (List.mem_append.mp h).elim ((fun w h => (List.mem_append.mp h).elim ((fun w h => (List.mem_append.mp h).elim ((fun w h => (List.mem_append.mp h).elim ((fun w h => (List.mem_append.mp h).elim ((fun w h => (List.mem_append.mp h).elim ((fun w h => (List.mem_append.mp h).elim ((fun w h => (List.mem_append.mp h).elim ((fun w h => (List.mem_append.mp h).elim (wsL_b0 w) ((fun w h => (List.mem_append.mp h).elim (wsL_b1 w) ((fun w h => (List.mem_append.mp h).elim (wsL_b2 w) ((fun w h => (List.mem_append.mp h).elim (wsL_b3 w) ((fun w h => (List.mem_append.mp h).elim (wsL_b4 w) ((fun w h => (List.mem_append.mp h).elim (wsL_b5 w) ((fun w h => (List.mem_append.mp h).elim (wsL_b6 w) ((fun w h => (List.mem_append.mp h).elim (wsL_b7 w) ((fun w h => (List.mem_append.mp h).elim (wsL_b8 w) ((fun w h => (List.mem_append.mp h).elim (wsL_b9 w) ((fun w h => (List.mem_append.mp h).elim (wsL_b10 w) ((fun w h => (List.mem_append.mp h).elim (wsL_b11 w) ((fun w h => (List.mem_append.mp h).elim (wsL_b12 w) ((fun w h => (List.mem_append.mp h).elim (wsL_b13 w) ((fun w h => (List.mem_append.mp h).elim (wsL_b14 w) ((fun w h => (List.mem_append.mp h).elim (wsL_b15 w) ((fun w h => (List.mem_append.mp h).elim (wsL_b16 w) ((fun w h => (List.mem_append.mp h).elim (wsL_b17 w) ((fun w h => (List.mem_append.mp h).elim (wsL_b18 w) ((fun w h => (List.mem_append.mp h).elim (wsL_b19 w) ((fun w h => (List.mem_append.mp h).elim (wsL_b20 w) ((fun w h => (List.mem_append.mp h).elim (wsL_b21 w) ((fun w h => (List.mem_append.mp h).elim (wsL_b22 w) ((fun w h => (List.mem_append.mp h).elim (wsL_b23 w) ((fun w h => (List.mem_append.mp h).elim (wsL_b24 w) ((fun w h => (List.mem_append.mp h).elim (wsL_b25 w) ((fun w h => (List.mem_append.mp h).elim (wsL_b26 w) ((fun w h => (List.mem_append.mp h).elim (wsL_b27 w) ((fun w h => (List.mem_append.mp h).elim (wsL_b28 w) ((fun w h => (List.mem_append.mp h).elim (wsL_b29 w) ((fun w h => (List.mem_append.mp h).elim (wsL_b30 w) ((fun w h => (List.mem_append.mp h).elim (wsL_b31 w) ((fun w h => (List.mem_append.mp h).elim (wsL_b32 w) ((fun w h => (List.mem_append.mp h).elim (wsL_b33 w) ((fun w h => (List.mem_append.mp h).elim (wsL_b34 w) ((fun w h => (List.mem_append.mp h).elim (wsL_b35 w) ((fun w h => (List.mem_append.mp h).elim (wsL_b36 w) ((fun w h => (List.mem_append.mp h).elim (wsL_b37 w) ((fun w h => (List.mem_append.mp h).elim (wsL_b38 w) ((fun w h => (List.mem_append.mp h).elim (wsL_b39 w) ((fun w h => (List.mem_append.mp h).elim (wsL_b40 w) ((fun w h => (List.mem_append.mp h).elim (wsL_b41 w) ((fun w h => (List.mem_append.mp h).elim (wsL_b42 w) ((fun w h => (List.mem_append.mp h).elim (wsL_b43 w) ((fun w h => (List.mem_append.mp h).elim (wsL_b44 w) ((fun w h => (List.mem_append.mp h).elim (wsL_b45 w) ((fun w h => (List.mem_append.mp h).elim (wsL_b46 w) ((fun w h => (List.mem_append.mp h).elim (wsL_b47 w) ((fun w h => (List.mem_append.mp h).elim (wsL_b48 w) ((fun w h => (List.mem_append.mp h).elim (wsL_b49 w) ((fun w h => (List.mem_append.mp h).elim (wsL_b50 w) ((fun w h => (List.mem_append.mp h).elim (wsL_b51 w) ((fun w h => (List.mem_append.mp h).elim (wsL_b52 w) ((fun w h => (List.mem_append.mp h).elim (wsL_b53 w) ((fun w h => (List.mem_append.mp h).elim (wsL_b54 w) ((fun w h => (List.mem_append.mp h).elim (wsL_b55 w) ((fun w h => (List.mem_append.mp h).elim (wsL_b56 w) ((fun w h => (List.mem_append.mp h).elim (wsL_b57 w) ((fun w h => (List.mem_append.mp h).elim (wsL_b58 w) ((fun w h => (List.mem_append.mp h).elim (wsL_b59 w) ((fun w h => (List.mem_append.mp h).elim (wsL_b60 w) ((fun w h => (List.mem_append.mp h).elim (wsL_b61 w) ((fun w h => (List.mem_append.mp h).elim (wsL_b62 w) ((fun w h => (List.mem_append.mp h).elim (wsL_b63 w) ((fun w h => (List.mem_append.mp h).elim (wsL_b64 w) (wsL_b65 w)) w)) w)) w)) w)) w)) w)) w)) w)) w)) w)) w)) w)) w)) w)) w)) w)) w)) w)) w)) w)) w)) w)) w)) w)) w)) w)) w)) w)) w)) w)) w)) w)) w)) w)) w)) w)) w)) w)) w)) w)) w)) w)) w)) w)) w)) w)) w)) w)) w)) w)) w)) w)) w)) w)) w)) w)) w)) w)) w)) w)) w)) w)) w)) w)) w) (wsL_b66 w)) w) (wsL_b67 w)) w) (wsL_b68 w)) w) (wsL_b69 w)) w) (wsL_b70 w)) w) (wsL_b71 w)) w) (wsL_b72 w)) w) (wsL_b73 w)) w) (wsL_b74 w)) w) (wsL_b75 w)) w) (wsL_b76 w)) w) (wsL_b77 w)) w) (wsL_b78 w)) w) (wsL_b79 w))
set_option maxRecDepth 20000 in
theorem wsL_law_x0 : ∀ w ∈ (vx_atM "java/lang/ArrayIndexOutOfBoundsException" ["java/lang/IndexOutOfBoundsException", "java/lang/RuntimeException", "java/lang/Exception"]).filter goodWord, w ∈ lw_tbl := by decide +kernel
set_option maxRecDepth 20000 in
theorem wsL_law_x1 : ∀ w ∈ (vx_atS RX7 332 "java/lang/IndexOutOfBoundsException" ["java/lang/RuntimeException", "java/lang/Exception"]).filter goodWord, w ∈ lw_tbl := by decide +kernel
set_option maxRecDepth 20000 in
theorem wsL_law_x2 : ∀ w ∈ (vx_atS RX7 231 "java/lang/IllegalArgumentException" ["java/lang/RuntimeException", "java/lang/Exception"]).filter goodWord, w ∈ lw_tbl := by decide +kernel
set_option maxRecDepth 20000 in
theorem wsL_law_x3 : ∀ w ∈ (vx_atS RX7 218 "java/lang/IllegalStateException" ["java/lang/RuntimeException", "java/lang/Exception"]).filter goodWord, w ∈ lw_tbl := by decide +kernel
set_option maxRecDepth 20000 in
theorem wsL_law_x4 : ∀ w ∈ (vx_atS RX7 199 "java/util/NoSuchElementException" ["java/lang/RuntimeException", "java/lang/Exception"]).filter goodWord, w ∈ lw_tbl := by decide +kernel
set_option maxRecDepth 20000 in
theorem wsL_law_x5 : ∀ w ∈ (vx_atS RX7 396 "java/lang/UnsupportedOperationException" ["java/lang/RuntimeException", "java/lang/Exception"]).filter goodWord, w ∈ lw_tbl := by decide +kernel
set_option maxRecDepth 20000 in
theorem wsL_law_x6 : ∀ w ∈ (vx_atM "java/lang/ArithmeticException" ["java/lang/RuntimeException", "java/lang/Exception"]).filter goodWord, w ∈ lw_tbl := by decide +kernel
set_option maxRecDepth 20000 in
theorem wsL_law_x7 : ∀ w ∈ (vx_atS RX7 297 "java/lang/ArithmeticException" ["java/lang/RuntimeException", "java/lang/Exception"]).filter goodWord, w ∈ lw_tbl := by decide +kernel
set_option maxRecDepth 20000 in
theorem wsL_law_in : ∀ w ∈ wsL_law, w ∈ lw_tbl := fun w h => (List.mem_append.mp h).elim (fun h => (List.mem_append.mp h).elim (fun h => (List.mem_append.mp h).elim (fun h => (List.mem_append.mp h).elim (fun h => (List.mem_append.mp h).elim (fun h => (List.mem_append.mp h).elim (fun h => (List.mem_append.mp h).elim (fun h => (List.mem_append.mp h).elim (fun h => wsL_law_in0 w h) (fun h => wsL_law_x0 w h)) (fun h => wsL_law_x1 w h)) (fun h => wsL_law_x2 w h)) (fun h => wsL_law_x3 w h)) (fun h => wsL_law_x4 w h)) (fun h => wsL_law_x5 w h)) (fun h => wsL_law_x6 w h)) (fun h => wsL_law_x7 w h)
