set_option maxRecDepth 20000 in
theorem wsL_inX80 : ∀ w ∈ wsX80, w ∈ lw_tbl := by decide +kernel
set_option maxRecDepth 20000 in
theorem wsL_inX90 : ∀ w ∈ wsX90, w ∈ lw_tbl := by decide +kernel
set_option maxRecDepth 20000 in
theorem wsL_inX00 : ∀ w ∈ wsX00, w ∈ lw_tbl := by decide +kernel
set_option maxRecDepth 20000 in
theorem wsL_inX20 : ∀ w ∈ wsX20, w ∈ lw_tbl := by decide +kernel
set_option maxRecDepth 20000 in
theorem wsL_inX40 : ∀ w ∈ wsX40, w ∈ lw_tbl := by decide +kernel
set_option maxRecDepth 20000 in
theorem wsL_inX60 : ∀ w ∈ wsX60, w ∈ lw_tbl := by decide +kernel
set_option maxRecDepth 20000 in
theorem wsL_inX30 : ∀ w ∈ wsX30, w ∈ lw_tbl := by decide +kernel
set_option maxRecDepth 20000 in
theorem wsL_inX50 : ∀ w ∈ wsX50, w ∈ lw_tbl := by decide +kernel
set_option maxRecDepth 20000 in
theorem wsL_inX10 : ∀ w ∈ wsX10, w ∈ lw_tbl := by decide +kernel
def nsW : List Cond := (nsAt RX8 190).filter goodWord
set_option maxRecDepth 20000 in
theorem nsW_in : ∀ w ∈ nsW, w ∈ lw_tbl := by decide +kernel
abbrev nsB : List Cond := [.declares (Bundle.initS "java/lang/RuntimeException"), .declares (Bundle.initS "java/lang/Exception"), .declares (Bundle.initS Bundle.tN), .castable nsE nsE]
theorem nsW_bad : ∀ w ∈ (nsAt RX8 190).filter (fun w => !goodWord w), w ∈ nsB := by decide +kernel
theorem nsW_ot : ∀ w ∈ Cond.classLink RX8 186 nsE :: Cond.initialized nsE :: nsAt RX8 190, vx_ot w = true := by decide +kernel
theorem nsB_in : ∀ w ∈ nsB, w ∈ lw_tbl := by decide +kernel
