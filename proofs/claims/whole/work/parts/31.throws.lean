/-! the three exceptions that LinearRows throws -/
abbrev xIOOB : String := "java/lang/IndexOutOfBoundsException"
abbrev xIAE : String := "java/lang/IllegalArgumentException"
abbrev xARI : String := "java/lang/ArithmeticException"
abbrev xNames : List String := ["java/lang/RuntimeException", "java/lang/Exception"]
set_option maxRecDepth 100000 in
theorem xt1a : ∀ w ∈ (vx_atS R_X 167 xIOOB xNames).filter goodWord, w ∈ lw_tbl := by decide +kernel
set_option maxRecDepth 100000 in
theorem xt2a : ∀ w ∈ (vx_atS R_X 174 xIAE xNames).filter goodWord, w ∈ lw_tbl := by decide +kernel
set_option maxRecDepth 100000 in
theorem xt3a : ∀ w ∈ (vx_atS R_X 215 xARI xNames).filter goodWord, w ∈ lw_tbl := by decide +kernel
theorem xt1 : ∀ w ∈ (vx_atS R_X 167 xIOOB xNames).filter goodWord, w ∈ wG := fun w h => List.mem_filter.mpr ⟨xt1a w h, (List.mem_filter.mp h).2⟩
theorem xt2 : ∀ w ∈ (vx_atS R_X 174 xIAE xNames).filter goodWord, w ∈ wG := fun w h => List.mem_filter.mpr ⟨xt2a w h, (List.mem_filter.mp h).2⟩
theorem xt3 : ∀ w ∈ (vx_atS R_X 215 xARI xNames).filter goodWord, w ∈ wG := fun w h => List.mem_filter.mpr ⟨xt3a w h, (List.mem_filter.mp h).2⟩
theorem xb1 : ∀ w ∈ (vx_atS R_X 167 xIOOB xNames).filter (fun w => !goodWord w), w ∈ wN := by decide +kernel
theorem xb2 : ∀ w ∈ (vx_atS R_X 174 xIAE xNames).filter (fun w => !goodWord w), w ∈ wN := by decide +kernel
theorem xb3 : ∀ w ∈ (vx_atS R_X 215 xARI xNames).filter (fun w => !goodWord w), w ∈ wN := by decide +kernel
theorem xo1 : ∀ w ∈ (vx_atS R_X 167 xIOOB xNames).filter (fun w => !goodWord w), w.onTables = true := by decide +kernel
theorem xo2 : ∀ w ∈ (vx_atS R_X 174 xIAE xNames).filter (fun w => !goodWord w), w.onTables = true := by decide +kernel
theorem xo3 : ∀ w ∈ (vx_atS R_X 215 xARI xNames).filter (fun w => !goodWord w), w.onTables = true := by decide +kernel
theorem xg1 : ∀ w ∈ Cond.classLink R_X 163 xIOOB :: Cond.initialized xIOOB :: vx_atS R_X 167 xIOOB xNames, vx_ot w = true := by decide +kernel
theorem xg2 : ∀ w ∈ Cond.classLink R_X 170 xIAE :: Cond.initialized xIAE :: vx_atS R_X 174 xIAE xNames, vx_ot w = true := by decide +kernel
theorem xg3 : ∀ w ∈ Cond.classLink R_X 211 xARI :: Cond.initialized xARI :: vx_atS R_X 215 xARI xNames, vx_ot w = true := by decide +kernel
